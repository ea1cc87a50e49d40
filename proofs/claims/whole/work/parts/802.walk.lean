abbrev rm_X5_setSin : Room := { frames := 2, cells := 0, slots := 0, locals := 52 }
set_option maxHeartbeats 4000000 in
set_option maxRecDepth 100000 in
theorem j_X5_setSin {p : Program} {l : Launch} {e : Env} {s : State} {m : MethodId} {args : Array Value} {below : List Frame} {meth : Method} {c : Code} {b : Nat} {D : va_G} {cy : Nat → ClassId} {G : Gm} {v0 : Nat} {v1 : Int32} {v2 : Int32} {v3 : Int32} {S : St} {Q : St → Prop} (C : CX p s m args meth c b D cy cX5_setSin RX5 4 none) (hE : s.heap.size + 0 ≤ b + G.2.2) (t_v0 : ok G 4 v0) (h : f_X5_setSin G v0 v1 v2 v3 Q S) : J p l e rm_X5_setSin s m args below meth c b D cy 4 (zV b D cy below args s G Q) 0 0 G S 0 [(0, .ref (b + v0)), (1, .int v1), (2, .int v2), (3, .int v3)] [] := by
  unfold f_X5_setSin at h
  refine jB C [(.aload_n 0, 1, 0), (.iload_n 1, 1, 0)] 2 [(0, .ref (b + v0)), (1, .int v1), (2, .int v2), (3, .int v3)] [.int v1, .ref (b + v0)] (by decide +kernel) rfl rfl ?_
  refine jcV_I C 5 (rest := []) (ok_X5_has t_v0 h) (by decide +kernel : decode cX5_setSin 2 = .ok (.invokevirtual 66, 3)) rfl wd_371 wd_373 wp_4 wd_2 wd_374 ⟨rfl, rfl⟩ hd_X5_has ⟨Nat.le_of_ble_eq_true rfl, Nat.le_of_ble_eq_true rfl⟩ t_v0 kX5 (by decide) rfl rfl rfl (Nat.le_of_ble_eq_true rfl) ⟨Nat.zero_le _, Nat.zero_le _⟩ (fun r2 S1 h => ?_)
  refine jIf_eq C 8 32 (by decide +kernel : decode cX5_setSin 5 = .ok (.ifCond .eq 27, 3)) rfl rfl (fun c3 => ?_) (fun c3 => ?_)
  · have h := it1 h c3
    exact jRetV C (by decide +kernel : decode cX5_setSin 32 = .ok (.return_, 1)) (Nat.le_refl _) (Nat.le_refl _) ⟨rfl, h⟩
  · have h := it2 h c3
    refine jB C [(.iload_n 2, 1, 0)] 9 [(0, .ref (b + v0)), (1, .int v1), (2, .int v2), (3, .int v3)] [.int v2] (by decide +kernel) rfl rfl ?_
    refine jcSN_I C 12 (rest := []) (ok_X10_isKind h) (by decide +kernel : decode cX5_setSin 9 = .ok (.invokestatic 70, 3)) rfl wn_375 wd_376 wd_1 wd_377 ⟨rfl, rfl⟩ hd_X10_isKind ⟨Nat.le_of_ble_eq_true rfl, Nat.le_of_ble_eq_true rfl⟩ rfl rfl (Nat.le_of_ble_eq_true rfl) ⟨Nat.zero_le _, Nat.zero_le _⟩ (fun r5 S4 h => ?_)
    refine jIf_eq C 15 32 (by decide +kernel : decode cX5_setSin 12 = .ok (.ifCond .eq 20, 3)) rfl rfl (fun c6 => ?_) (fun c6 => ?_)
    · have h := it1 h c6
      exact jRetV C (by decide +kernel : decode cX5_setSin 32 = .ok (.return_, 1)) (Nat.le_refl _) (Nat.le_refl _) ⟨rfl, h⟩
    · have h := it2 h c6
      refine jB C [(.aload_n 0, 1, 0)] 16 [(0, .ref (b + v0)), (1, .int v1), (2, .int v2), (3, .int v3)] [.ref (b + v0)] (by decide +kernel) rfl rfl ?_
      obtain ⟨a7, e_a7, h⟩ := h
      refine jGetR C 19 (by decide +kernel : decode cX5_setSin 16 = .ok (.getfield 9, 3)) rfl t_v0 kX5 1 (by decide) rfl rfl (by decide) wd_40 e_a7 rfl (fun t_a7 => ?_)
      refine jB C [(.iload_n 1, 1, 0), (.iconst 4, 1, 4), (.imul, 1, 0), (.iload_n 2, 1, 0), (.iadd, 1, 0), (.iload_n 3, 1, 0), (.iconst 0, 1, 0), (.bipush 8, 2, 8)] 28 [(0, .ref (b + v0)), (1, .int v1), (2, .int v2), (3, .int v3)] [.int 8, .int 0, .int v3, .int ((v1 * 4) + v2), .ref (b + a7)] (by decide +kernel) rfl rfl ?_
      refine jcSN_I C 31 (rest := [.int ((v1 * 4) + v2), .ref (b + a7)]) (ok_X10_nearest h) (by decide +kernel : decode cX5_setSin 28 = .ok (.invokestatic 73, 3)) rfl wn_378 wd_241 wd_1 wd_242 ⟨rfl, rfl⟩ hd_X10_nearest ⟨Nat.le_of_ble_eq_true rfl, Nat.le_of_ble_eq_true rfl⟩ rfl rfl (Nat.le_of_ble_eq_true rfl) ⟨Nat.zero_le _, Nat.zero_le _⟩ (fun r9 S8 h => ?_)
      obtain ⟨y10, h⟩ := h
      refine jIast C 32 (by decide +kernel : decode cX5_setSin 31 = .ok (.iastore, 1)) rfl hE t_a7 y10 ?_
      refine jTopS (fun S11 e_S11 => ?_)
      have h := h S11 e_S11
      exact jRetV C (by decide +kernel : decode cX5_setSin 32 = .ok (.return_, 1)) (Nat.le_refl _) (Nat.le_refl _) ⟨rfl, h⟩
theorem ok_X5_setSin {G : Gm} {v0 : Nat} {v1 : Int32} {v2 : Int32} {v3 : Int32} {S : St} {Q : St → Prop}  (t_v0 : ok G 4 v0) (h : f_X5_setSin G v0 v1 v2 v3 Q S) : MT yX5_setSin cX5_setSin 4 none rm_X5_setSin 0 0 (fun b => [.ref (b + v0), .int v1, .int v2, .int v3]) G S (QV (fun G1 S1 => G1 = G ∧ Q S1)) := MT.ofJ (by decide +kernel) (fun b => [(0, .ref (b + v0)), (1, .int v1), (2, .int v2), (3, .int v3)]) (fun b => rfl) (fun b => Nat.le_of_ble_eq_true rfl) (fun l b D cy p e s m below meth c C hE hn => j_X5_setSin C hE t_v0 h)
theorem hd_X5_setSin : yX5_setSin.cls ≠ "java/lang/invoke/MethodHandle" ∧ yX5_setSin.cls ≠ "java/lang/invoke/VarHandle" ∧ (parseMethodDescriptor yX5_setSin.desc).map (fun d => d.parameters.length) = some 3 := by decide +kernel
abbrev rm_X2_aboutSin : Room := { frames := 2, cells := 0, slots := 0, locals := 44 }
set_option maxHeartbeats 4000000 in
set_option maxRecDepth 100000 in
theorem j_X2_aboutSin {p : Program} {l : Launch} {e : Env} {s : State} {m : MethodId} {args : Array Value} {below : List Frame} {meth : Method} {c : Code} {b : Nat} {D : va_G} {cy : Nat → ClassId} {G : Gm} {v0 : Nat} {v1 : Nat} {v2 : Int32} {v3 : Int32} {S : St} {Q : St → Prop} (C : CX p s m args meth c b D cy cX2_aboutSin RX2 4 none) (hE : s.heap.size + 0 ≤ b + G.2.2) (t_v0 : ok G 2 v0) (t_v1 : ok G 4 v1) (h : f_X2_aboutSin G v0 v1 v2 v3 Q S) : J p l e rm_X2_aboutSin s m args below meth c b D cy 4 (zV b D cy below args s G Q) 0 0 G S 0 [(0, .ref (b + v0)), (1, .ref (b + v1)), (2, .int v2), (3, .int v3)] [] := by
  unfold f_X2_aboutSin at h
  refine jB C [(.aload_n 0, 1, 0)] 1 [(0, .ref (b + v0)), (1, .ref (b + v1)), (2, .int v2), (3, .int v3)] [.ref (b + v0)] (by decide +kernel) rfl rfl ?_
  obtain ⟨a1, e_a1, h⟩ := h
  refine jGetR C 4 (by decide +kernel : decode cX2_aboutSin 1 = .ok (.getfield 9, 3)) rfl t_v0 kX2 0 (by decide) rfl rfl (by decide) wd_117 e_a1 rfl (fun t_a1 => ?_)
  refine jB C [(.iconst 0, 1, 0), (.iload_n 2, 1, 0)] 6 [(0, .ref (b + v0)), (1, .ref (b + v1)), (2, .int v2), (3, .int v3)] [.int v2, .int 0, .ref (b + a1)] (by decide +kernel) rfl rfl ?_
  obtain ⟨y2, h⟩ := h
  refine jIast C 7 (by decide +kernel : decode cX2_aboutSin 6 = .ok (.iastore, 1)) rfl hE t_a1 y2 ?_
  refine jTopS (fun S3 e_S3 => ?_)
  have h := h S3 e_S3
  refine jB C [(.aload_n 0, 1, 0)] 8 [(0, .ref (b + v0)), (1, .ref (b + v1)), (2, .int v2), (3, .int v3)] [.ref (b + v0)] (by decide +kernel) rfl rfl ?_
  obtain ⟨a4, e_a4, h⟩ := h
  refine jGetR C 11 (by decide +kernel : decode cX2_aboutSin 8 = .ok (.getfield 9, 3)) rfl t_v0 kX2 0 (by decide) rfl rfl (by decide) wd_117 e_a4 rfl (fun t_a4 => ?_)
  refine jB C [(.iconst 1, 1, 1), (.iload_n 3, 1, 0)] 13 [(0, .ref (b + v0)), (1, .ref (b + v1)), (2, .int v2), (3, .int v3)] [.int v3, .int 1, .ref (b + a4)] (by decide +kernel) rfl rfl ?_
  obtain ⟨y5, h⟩ := h
  refine jIast C 14 (by decide +kernel : decode cX2_aboutSin 13 = .ok (.iastore, 1)) rfl hE t_a4 y5 ?_
  refine jTopS (fun S6 e_S6 => ?_)
  have h := h S6 e_S6
  refine jB C [(.aload_n 0, 1, 0)] 15 [(0, .ref (b + v0)), (1, .ref (b + v1)), (2, .int v2), (3, .int v3)] [.ref (b + v0)] (by decide +kernel) rfl rfl ?_
  obtain ⟨a7, e_a7, h⟩ := h
  refine jGetR C 18 (by decide +kernel : decode cX2_aboutSin 15 = .ok (.getfield 9, 3)) rfl t_v0 kX2 0 (by decide) rfl rfl (by decide) wd_117 e_a7 rfl (fun t_a7 => ?_)
  refine jB C [(.iconst 2, 1, 2), (.aload_n 1, 1, 0), (.iload_n 2, 1, 0), (.iload_n 3, 1, 0)] 22 [(0, .ref (b + v0)), (1, .ref (b + v1)), (2, .int v2), (3, .int v3)] [.int v3, .int v2, .ref (b + v1), .int 2, .ref (b + a7)] (by decide +kernel) rfl rfl ?_
  refine jcVN_I C 25 (rest := [.int 2, .ref (b + a7)]) (ok_X5_sinOf t_v1 h) (by decide +kernel : decode cX2_aboutSin 22 = .ok (.invokevirtual 35, 3)) rfl wn_508 wd_398 wp_8 wd_2 wd_399 ⟨rfl, rfl⟩ hd_X5_sinOf ⟨Nat.le_of_ble_eq_true rfl, Nat.le_of_ble_eq_true rfl⟩ t_v1 kX5 (by decide) rfl rfl rfl (Nat.le_of_ble_eq_true rfl) ⟨Nat.zero_le _, Nat.zero_le _⟩ (fun r9 S8 h => ?_)
  obtain ⟨y10, h⟩ := h
  refine jIast C 26 (by decide +kernel : decode cX2_aboutSin 25 = .ok (.iastore, 1)) rfl hE t_a7 y10 ?_
  refine jTopS (fun S11 e_S11 => ?_)
  have h := h S11 e_S11
  refine jB C [(.aload_n 0, 1, 0)] 27 [(0, .ref (b + v0)), (1, .ref (b + v1)), (2, .int v2), (3, .int v3)] [.ref (b + v0)] (by decide +kernel) rfl rfl ?_
  obtain ⟨a12, e_a12, h⟩ := h
  refine jGetR C 30 (by decide +kernel : decode cX2_aboutSin 27 = .ok (.getfield 9, 3)) rfl t_v0 kX2 0 (by decide) rfl rfl (by decide) wd_117 e_a12 rfl (fun t_a12 => ?_)
  refine jB C [(.iconst 3, 1, 3), (.aload_n 1, 1, 0), (.iload_n 2, 1, 0)] 33 [(0, .ref (b + v0)), (1, .ref (b + v1)), (2, .int v2), (3, .int v3)] [.int v2, .ref (b + v1), .int 3, .ref (b + a12)] (by decide +kernel) rfl rfl ?_
  refine jcVN_I C 36 (rest := [.int 3, .ref (b + a12)]) (ok_X5_sinsOf t_v1 h) (by decide +kernel : decode cX2_aboutSin 33 = .ok (.invokevirtual 61, 3)) rfl wn_434 wd_436 wp_14 wd_2 wd_437 ⟨rfl, rfl⟩ hd_X5_sinsOf ⟨Nat.le_of_ble_eq_true rfl, Nat.le_of_ble_eq_true rfl⟩ t_v1 kX5 (by decide) rfl rfl rfl (Nat.le_of_ble_eq_true rfl) ⟨Nat.zero_le _, Nat.zero_le _⟩ (fun r14 S13 h => ?_)
  obtain ⟨y15, h⟩ := h
  refine jIast C 37 (by decide +kernel : decode cX2_aboutSin 36 = .ok (.iastore, 1)) rfl hE t_a12 y15 ?_
  refine jTopS (fun S16 e_S16 => ?_)
  have h := h S16 e_S16
  refine jB C [(.aload_n 0, 1, 0)] 38 [(0, .ref (b + v0)), (1, .ref (b + v1)), (2, .int v2), (3, .int v3)] [.ref (b + v0)] (by decide +kernel) rfl rfl ?_
  obtain ⟨a17, e_a17, h⟩ := h
  refine jGetR C 41 (by decide +kernel : decode cX2_aboutSin 38 = .ok (.getfield 9, 3)) rfl t_v0 kX2 0 (by decide) rfl rfl (by decide) wd_117 e_a17 rfl (fun t_a17 => ?_)
  refine jB C [(.iconst 4, 1, 4), (.iconst (-1), 1, (-1))] 43 [(0, .ref (b + v0)), (1, .ref (b + v1)), (2, .int v2), (3, .int v3)] [.int (-1), .int 4, .ref (b + a17)] (by decide +kernel) rfl rfl ?_
  obtain ⟨y18, h⟩ := h
  refine jIast C 44 (by decide +kernel : decode cX2_aboutSin 43 = .ok (.iastore, 1)) rfl hE t_a17 y18 ?_
  refine jTopS (fun S19 e_S19 => ?_)
  have h := h S19 e_S19
  refine jB C [(.aload_n 0, 1, 0)] 45 [(0, .ref (b + v0)), (1, .ref (b + v1)), (2, .int v2), (3, .int v3)] [.ref (b + v0)] (by decide +kernel) rfl rfl ?_
  obtain ⟨a20, e_a20, h⟩ := h
  refine jGetR C 48 (by decide +kernel : decode cX2_aboutSin 45 = .ok (.getfield 9, 3)) rfl t_v0 kX2 0 (by decide) rfl rfl (by decide) wd_117 e_a20 rfl (fun t_a20 => ?_)
  refine jB C [(.iconst 5, 1, 5), (.iconst (-1), 1, (-1))] 50 [(0, .ref (b + v0)), (1, .ref (b + v1)), (2, .int v2), (3, .int v3)] [.int (-1), .int 5, .ref (b + a20)] (by decide +kernel) rfl rfl ?_
  obtain ⟨y21, h⟩ := h
  refine jIast C 51 (by decide +kernel : decode cX2_aboutSin 50 = .ok (.iastore, 1)) rfl hE t_a20 y21 ?_
  refine jTopS (fun S22 e_S22 => ?_)
  have h := h S22 e_S22
  refine jB C [(.aload_n 0, 1, 0)] 52 [(0, .ref (b + v0)), (1, .ref (b + v1)), (2, .int v2), (3, .int v3)] [.ref (b + v0)] (by decide +kernel) rfl rfl ?_
  obtain ⟨a23, e_a23, h⟩ := h
  refine jGetR C 55 (by decide +kernel : decode cX2_aboutSin 52 = .ok (.getfield 9, 3)) rfl t_v0 kX2 0 (by decide) rfl rfl (by decide) wd_117 e_a23 rfl (fun t_a23 => ?_)
  refine jB C [(.bipush 6, 2, 6), (.iconst (-1), 1, (-1))] 58 [(0, .ref (b + v0)), (1, .ref (b + v1)), (2, .int v2), (3, .int v3)] [.int (-1), .int 6, .ref (b + a23)] (by decide +kernel) rfl rfl ?_
  obtain ⟨y24, h⟩ := h
  refine jIast C 59 (by decide +kernel : decode cX2_aboutSin 58 = .ok (.iastore, 1)) rfl hE t_a23 y24 ?_
  refine jTopS (fun S25 e_S25 => ?_)
  have h := h S25 e_S25
  refine jB C [(.aload_n 0, 1, 0)] 60 [(0, .ref (b + v0)), (1, .ref (b + v1)), (2, .int v2), (3, .int v3)] [.ref (b + v0)] (by decide +kernel) rfl rfl ?_
  obtain ⟨a26, e_a26, h⟩ := h
  refine jGetR C 63 (by decide +kernel : decode cX2_aboutSin 60 = .ok (.getfield 9, 3)) rfl t_v0 kX2 0 (by decide) rfl rfl (by decide) wd_117 e_a26 rfl (fun t_a26 => ?_)
  refine jB C [(.bipush 7, 2, 7), (.aload_n 1, 1, 0), (.iconst 0, 1, 0)] 67 [(0, .ref (b + v0)), (1, .ref (b + v1)), (2, .int v2), (3, .int v3)] [.int 0, .ref (b + v1), .int 7, .ref (b + a26)] (by decide +kernel) rfl rfl ?_
  refine jcVN_I C 70 (rest := [.int 7, .ref (b + a26)]) (ok_X5_termOf t_v1 h) (by decide +kernel : decode cX2_aboutSin 67 = .ok (.invokevirtual 64, 3)) rfl wn_444 wd_418 wp_11 wd_2 wd_419 ⟨rfl, rfl⟩ hd_X5_termOf ⟨Nat.le_of_ble_eq_true rfl, Nat.le_of_ble_eq_true rfl⟩ t_v1 kX5 (by decide) rfl rfl rfl (Nat.le_of_ble_eq_true rfl) ⟨Nat.zero_le _, Nat.zero_le _⟩ (fun r28 S27 h => ?_)
  obtain ⟨y29, h⟩ := h
  refine jIast C 71 (by decide +kernel : decode cX2_aboutSin 70 = .ok (.iastore, 1)) rfl hE t_a26 y29 ?_
  refine jTopS (fun S30 e_S30 => ?_)
  have h := h S30 e_S30
  refine jB C [(.aload_n 0, 1, 0)] 72 [(0, .ref (b + v0)), (1, .ref (b + v1)), (2, .int v2), (3, .int v3)] [.ref (b + v0)] (by decide +kernel) rfl rfl ?_
  obtain ⟨a31, e_a31, h⟩ := h
  refine jGetR C 75 (by decide +kernel : decode cX2_aboutSin 72 = .ok (.getfield 9, 3)) rfl t_v0 kX2 0 (by decide) rfl rfl (by decide) wd_117 e_a31 rfl (fun t_a31 => ?_)
  refine jB C [(.bipush 8, 2, 8), (.aload_n 1, 1, 0), (.iconst 2, 1, 2)] 79 [(0, .ref (b + v0)), (1, .ref (b + v1)), (2, .int v2), (3, .int v3)] [.int 2, .ref (b + v1), .int 8, .ref (b + a31)] (by decide +kernel) rfl rfl ?_
  refine jcVN_I C 82 (rest := [.int 8, .ref (b + a31)]) (ok_X5_termOf t_v1 h) (by decide +kernel : decode cX2_aboutSin 79 = .ok (.invokevirtual 64, 3)) rfl wn_444 wd_418 wp_11 wd_2 wd_419 ⟨rfl, rfl⟩ hd_X5_termOf ⟨Nat.le_of_ble_eq_true rfl, Nat.le_of_ble_eq_true rfl⟩ t_v1 kX5 (by decide) rfl rfl rfl (Nat.le_of_ble_eq_true rfl) ⟨Nat.zero_le _, Nat.zero_le _⟩ (fun r33 S32 h => ?_)
  obtain ⟨y34, h⟩ := h
  refine jIast C 83 (by decide +kernel : decode cX2_aboutSin 82 = .ok (.iastore, 1)) rfl hE t_a31 y34 ?_
  refine jTopS (fun S35 e_S35 => ?_)
  have h := h S35 e_S35
  exact jRetV C (by decide +kernel : decode cX2_aboutSin 83 = .ok (.return_, 1)) (Nat.le_refl _) (Nat.le_refl _) ⟨rfl, h⟩
theorem ok_X2_aboutSin {G : Gm} {v0 : Nat} {v1 : Nat} {v2 : Int32} {v3 : Int32} {S : St} {Q : St → Prop}  (t_v0 : ok G 2 v0) (t_v1 : ok G 4 v1) (h : f_X2_aboutSin G v0 v1 v2 v3 Q S) : MT yX2_aboutSin cX2_aboutSin 4 none rm_X2_aboutSin 0 0 (fun b => [.ref (b + v0), .ref (b + v1), .int v2, .int v3]) G S (QV (fun G1 S1 => G1 = G ∧ Q S1)) := MT.ofJ (by decide +kernel) (fun b => [(0, .ref (b + v0)), (1, .ref (b + v1)), (2, .int v2), (3, .int v3)]) (fun b => rfl) (fun b => Nat.le_of_ble_eq_true rfl) (fun l b D cy p e s m below meth c C hE hn => j_X2_aboutSin C hE t_v0 t_v1 h)
theorem hd_X2_aboutSin : yX2_aboutSin.cls ≠ "java/lang/invoke/MethodHandle" ∧ yX2_aboutSin.cls ≠ "java/lang/invoke/VarHandle" ∧ (parseMethodDescriptor yX2_aboutSin.desc).map (fun d => d.parameters.length) = some 3 := by decide +kernel
abbrev rm_X2_lensFor : Room := { frames := 3, cells := 0, slots := 0, locals := 82 }
set_option maxHeartbeats 4000000 in
set_option maxRecDepth 100000 in
theorem j_X2_lensFor {p : Program} {l : Launch} {e : Env} {s : State} {m : MethodId} {args : Array Value} {below : List Frame} {meth : Method} {c : Code} {b : Nat} {D : va_G} {cy : Nat → ClassId} {G : Gm} {v0 : Nat} {v1 : Nat} {v2 : Option Nat} {v3 : Int32} {v4 : Int32} {S : St} {Q : Int32 → St → Prop} (C : CX p s m args meth c b D cy cX2_lensFor RX2 6 (some .int)) (hE : s.heap.size + 0 ≤ b + G.2.2) (t_v0 : ok G 2 v0) (t_v1 : ok G 4 v1) (t_v2 : ∀ z, v2 = some z → ok G 7 z) (h : f_X2_lensFor G v0 v1 v2 v3 v4 Q S) : J p l e rm_X2_lensFor s m args below meth c b D cy 6 (zI b D cy below args s G Q) 0 0 G S 0 [(0, .ref (b + v0)), (1, .ref (b + v1)), (2, rv b v2), (3, .int v3), (4, .int v4)] [] := by
  unfold f_X2_lensFor at h
  refine jB C [(.aload_n 0, 1, 0), (.aload_n 1, 1, 0), (.iload_n 3, 1, 0), (.iload 4, 2, 0)] 5 [(0, .ref (b + v0)), (1, .ref (b + v1)), (2, rv b v2), (3, .int v3), (4, .int v4)] [.int v4, .int v3, .ref (b + v1), .ref (b + v0)] (by decide +kernel) rfl rfl ?_
  refine jcV_V C 8 (rest := []) (ok_X2_aboutSin t_v0 t_v1 h) (by decide +kernel : decode cX2_lensFor 5 = .ok (.invokevirtual 22, 3)) rfl wd_504 wd_506 wp_25 wd_4 wd_507 ⟨rfl, rfl⟩ hd_X2_aboutSin ⟨Nat.le_of_ble_eq_true rfl, Nat.le_of_ble_eq_true rfl⟩ t_v0 kX2 (by decide) rfl rfl rfl (Nat.le_of_ble_eq_true rfl) ⟨Nat.zero_le _, Nat.zero_le _⟩ (fun S1 h => ?_)
  refine jB C [(.aload_n 0, 1, 0)] 9 [(0, .ref (b + v0)), (1, .ref (b + v1)), (2, rv b v2), (3, .int v3), (4, .int v4)] [.ref (b + v0)] (by decide +kernel) rfl rfl ?_
  refine jAloadQ_n C 10 (by decide +kernel : decode cX2_lensFor 9 = .ok (.aload_n 2, 1)) rfl 2 rfl ?_
  refine jB C [(.iconst 0, 1, 0)] 11 [(0, .ref (b + v0)), (1, .ref (b + v1)), (2, rv b v2), (3, .int v3), (4, .int v4)] [.int 0, rv b v2, .ref (b + v0)] (by decide +kernel) rfl rfl ?_
  refine jcV_I C 14 (rest := []) (ok_X2_lastTold t_v0 t_v2 h) (by decide +kernel : decode cX2_lensFor 11 = .ok (.invokevirtual 26, 3)) rfl wd_457 wd_459 wp_18 wd_4 wd_460 ⟨rfl, rfl⟩ hd_X2_lastTold ⟨Nat.le_of_ble_eq_true rfl, Nat.le_of_ble_eq_true rfl⟩ t_v0 kX2 (by decide) rfl rfl rfl (Nat.le_of_ble_eq_true rfl) ⟨Nat.zero_le _, Nat.zero_le _⟩ (fun r3 S2 h => ?_)
  refine jB C [(.istore 5, 2, 0), (.iload 5, 2, 0)] 18 [(5, .int r3), (0, .ref (b + v0)), (1, .ref (b + v1)), (2, rv b v2), (3, .int v3), (4, .int v4)] [.int r3] (by decide +kernel) rfl rfl ?_
  refine jLdc C 20 (by decide +kernel : decode cX2_lensFor 18 = .ok (.ldc 30, 2)) rfl wd_461 ?_
  refine jIcmp_eq C 23 32 (by decide +kernel : decode cX2_lensFor 20 = .ok (.if_icmp .eq 12, 3)) rfl rfl (fun c4 => ?_) (fun c4 => ?_)
  · have h := it1 h c4
    refine jB C [(.aload_n 1, 1, 0), (.iload_n 3, 1, 0), (.iload 4, 2, 0)] 36 [(5, .int r3), (0, .ref (b + v0)), (1, .ref (b + v1)), (2, rv b v2), (3, .int v3), (4, .int v4)] [.int v4, .int v3, .ref (b + v1)] (by decide +kernel) rfl rfl ?_
    refine jcVN_I C 39 (rest := []) (ok_X5_sinOf t_v1 h) (by decide +kernel : decode cX2_lensFor 36 = .ok (.invokevirtual 35, 3)) rfl wn_508 wd_398 wp_8 wd_2 wd_399 ⟨rfl, rfl⟩ hd_X5_sinOf ⟨Nat.le_of_ble_eq_true rfl, Nat.le_of_ble_eq_true rfl⟩ t_v1 kX5 (by decide) rfl rfl rfl (Nat.le_of_ble_eq_true rfl) ⟨Nat.zero_le _, Nat.zero_le _⟩ (fun r6 S5 h => ?_)
    refine jB C [(.iconst 4, 1, 4)] 40 [(5, .int r3), (0, .ref (b + v0)), (1, .ref (b + v1)), (2, rv b v2), (3, .int v3), (4, .int v4)] [.int 4, .int r6] (by decide +kernel) rfl rfl ?_
    refine jIcmp_lt C 43 50 (by decide +kernel : decode cX2_lensFor 40 = .ok (.if_icmp .lt 10, 3)) rfl rfl (fun c7 => ?_) (fun c7 => ?_)
    · have h := it1 h c7
      refine jB C [(.iconst 0, 1, 0)] 51 [(5, .int r3), (0, .ref (b + v0)), (1, .ref (b + v1)), (2, rv b v2), (3, .int v3), (4, .int v4)] [.int 0] (by decide +kernel) rfl rfl ?_
      exact jRetI C (by decide +kernel : decode cX2_lensFor 51 = .ok (.ireturn, 1)) (Nat.le_refl _) (Nat.le_refl _) ⟨rfl, h⟩
    · have h := it2 h c7
      refine jB C [(.iload 4, 2, 0), (.iconst 1, 1, 1), (.iadd, 1, 0)] 47 [(5, .int r3), (0, .ref (b + v0)), (1, .ref (b + v1)), (2, rv b v2), (3, .int v3), (4, .int v4)] [.int (v4 + 1)] (by decide +kernel) rfl rfl ?_
      refine jGoto C 51 (by decide +kernel : decode cX2_lensFor 47 = .ok (.goto 4, 3)) rfl ?_
      exact jRetI C (by decide +kernel : decode cX2_lensFor 51 = .ok (.ireturn, 1)) (Nat.le_refl _) (Nat.le_refl _) ⟨rfl, h⟩
  · have h := it2 h c4
    refine jB C [(.iload 5, 2, 0), (.iconst 0, 1, 0), (.bipush 7, 2, 7)] 28 [(5, .int r3), (0, .ref (b + v0)), (1, .ref (b + v1)), (2, rv b v2), (3, .int v3), (4, .int v4)] [.int 7, .int 0, .int r3] (by decide +kernel) rfl rfl ?_
    refine jcSN_I C 31 (rest := []) (ok_X10_nearest h) (by decide +kernel : decode cX2_lensFor 28 = .ok (.invokestatic 31, 3)) rfl wn_484 wd_241 wd_1 wd_242 ⟨rfl, rfl⟩ hd_X10_nearest ⟨Nat.le_of_ble_eq_true rfl, Nat.le_of_ble_eq_true rfl⟩ rfl rfl (Nat.le_of_ble_eq_true rfl) ⟨Nat.zero_le _, Nat.zero_le _⟩ (fun r9 S8 h => ?_)
    exact jRetI C (by decide +kernel : decode cX2_lensFor 31 = .ok (.ireturn, 1)) (Nat.le_refl _) (Nat.le_refl _) ⟨rfl, h⟩
theorem ok_X2_lensFor {G : Gm} {v0 : Nat} {v1 : Nat} {v2 : Option Nat} {v3 : Int32} {v4 : Int32} {S : St} {Q : Int32 → St → Prop}  (t_v0 : ok G 2 v0) (t_v1 : ok G 4 v1) (t_v2 : ∀ z, v2 = some z → ok G 7 z) (h : f_X2_lensFor G v0 v1 v2 v3 v4 Q S) : MT yX2_lensFor cX2_lensFor 6 (some .int) rm_X2_lensFor 0 0 (fun b => [.ref (b + v0), .ref (b + v1), rv b v2, .int v3, .int v4]) G S (QI (fun r G1 S1 => G1 = G ∧ Q r S1)) := MT.ofJ (by decide +kernel) (fun b => [(0, .ref (b + v0)), (1, .ref (b + v1)), (2, rv b v2), (3, .int v3), (4, .int v4)]) (fun b => by cases v2 <;> rfl) (fun b => by cases v2 <;> exact Nat.le_of_ble_eq_true rfl) (fun l b D cy p e s m below meth c C hE hn => j_X2_lensFor C hE t_v0 t_v1 t_v2 h)
theorem hd_X2_lensFor : yX2_lensFor.cls ≠ "java/lang/invoke/MethodHandle" ∧ yX2_lensFor.cls ≠ "java/lang/invoke/VarHandle" ∧ (parseMethodDescriptor yX2_lensFor.desc).map (fun d => d.parameters.length) = some 4 := by decide +kernel
abbrev rm_X2_glassBy : Room := { frames := 4, cells := 0, slots := 0, locals := 107 }
set_option maxHeartbeats 4000000 in
set_option maxRecDepth 100000 in
theorem j_X2_glassBy_6_n {p : Program} {l : Launch} {e : Env} {s : State} {m : MethodId} {args : Array Value} {below : List Frame} {meth : Method} {c : Code} {b : Nat} {D : va_G} {cy : Nat → ClassId} {G : Gm} {v0 : Nat} {v1 : Nat} {v2 : Option Nat} {v3 : Int32} {Q : Int32 → St → Prop} (C : CX p s m args meth c b D cy cX2_glassBy RX2 7 (some .int)) (hE : s.heap.size + 0 ≤ b + G.2.2) (t_v0 : ok G 2 v0) (t_v1 : ok G 4 v1) (t_v2 : ∀ z, v2 = some z → ok G 7 z) : ∀ k (v4 : Int32) (v5 : Int32) S, f_X2_glassBy_6_n G v0 v1 v2 v3 Q k v4 v5 S → J p l e rm_X2_glassBy s m args below meth c b D cy 7 (zI b D cy below args s G Q) 0 0 G S 6 [(0, .ref (b + v0)), (1, .ref (b + v1)), (2, rv b v2), (3, .int v3), (4, .int v4), (5, .int v5)] [] := by
  intro k
  induction k with
  | zero => intro v4 v5 S h; exact h.elim
  | succ k ih =>
    intro v4 v5 S h
    unfold f_X2_glassBy_6_n at h
    refine jB C [(.iload 5, 2, 0), (.iconst 4, 1, 4)] 9 [(0, .ref (b + v0)), (1, .ref (b + v1)), (2, rv b v2), (3, .int v3), (4, .int v4), (5, .int v5)] [.int 4, .int v5] (by decide +kernel) rfl rfl ?_
    refine jIcmp_ge C 12 46 (by decide +kernel : decode cX2_glassBy 9 = .ok (.if_icmp .ge 37, 3)) rfl rfl (fun c1 => ?_) (fun c1 => ?_)
    · have h := it1 h c1
      refine jB C [(.iload 4, 2, 0)] 48 [(0, .ref (b + v0)), (1, .ref (b + v1)), (2, rv b v2), (3, .int v3), (4, .int v4), (5, .int v5)] [.int v4] (by decide +kernel) rfl rfl ?_
      exact jRetI C (by decide +kernel : decode cX2_glassBy 48 = .ok (.ireturn, 1)) (Nat.le_refl _) (Nat.le_refl _) ⟨rfl, h⟩
    · have h := it2 h c1
      refine jB C [(.aload_n 0, 1, 0), (.aload_n 1, 1, 0)] 14 [(0, .ref (b + v0)), (1, .ref (b + v1)), (2, rv b v2), (3, .int v3), (4, .int v4), (5, .int v5)] [.ref (b + v1), .ref (b + v0)] (by decide +kernel) rfl rfl ?_
      refine jAloadQ_n C 15 (by decide +kernel : decode cX2_glassBy 14 = .ok (.aload_n 2, 1)) rfl 2 rfl ?_
      refine jB C [(.iload_n 3, 1, 0), (.iload 5, 2, 0)] 18 [(0, .ref (b + v0)), (1, .ref (b + v1)), (2, rv b v2), (3, .int v3), (4, .int v4), (5, .int v5)] [.int v5, .int v3, rv b v2, .ref (b + v1), .ref (b + v0)] (by decide +kernel) rfl rfl ?_
      refine jcV_I C 21 (rest := []) (ok_X2_lensFor t_v0 t_v1 t_v2 h) (by decide +kernel : decode cX2_glassBy 18 = .ok (.invokevirtual 57, 3)) rfl wd_847 wd_502 wp_24 wd_4 wd_503 ⟨rfl, rfl⟩ hd_X2_lensFor ⟨Nat.le_of_ble_eq_true rfl, Nat.le_of_ble_eq_true rfl⟩ t_v0 kX2 (by decide) rfl rfl rfl (Nat.le_of_ble_eq_true rfl) ⟨Nat.zero_le _, Nat.zero_le _⟩ (fun r3 S2 h => ?_)
      refine jB C [(.istore 6, 2, 0), (.iload 6, 2, 0)] 25 [(6, .int r3), (0, .ref (b + v0)), (1, .ref (b + v1)), (2, rv b v2), (3, .int v3), (4, .int v4), (5, .int v5)] [.int r3] (by decide +kernel) rfl rfl ?_
      refine jIf_eq C 28 40 (by decide +kernel : decode cX2_glassBy 25 = .ok (.ifCond .eq 15, 3)) rfl rfl (fun c4 => ?_) (fun c4 => ?_)
      · have h := it1 h c4
        refine jB C [(.iinc 5 1, 3, 1)] 43 [(5, .int (v5 + 1)), (6, .int r3), (0, .ref (b + v0)), (1, .ref (b + v1)), (2, rv b v2), (3, .int v3), (4, .int v4)] [] (by decide +kernel) rfl rfl ?_
        refine jGoto C 6 (by decide +kernel : decode cX2_glassBy 43 = .ok (.goto (-37), 3)) rfl ?_
        refine jSub [2, 3, 4, 5, 6, 0] rfl ?_
        exact ih v4 (v5 + 1) S2 h
      · have h := it2 h c4
        refine jB C [(.iload 4, 2, 0), (.bipush 10, 2, 10), (.imul, 1, 0), (.iload 6, 2, 0), (.iadd, 1, 0), (.iconst 1, 1, 1), (.iadd, 1, 0)] 38 [(6, .int r3), (0, .ref (b + v0)), (1, .ref (b + v1)), (2, rv b v2), (3, .int v3), (4, .int v4), (5, .int v5)] [.int (((v4 * 10) + r3) + 1)] (by decide +kernel) rfl rfl ?_
        refine jTopI (fun x5 e_x5 => ?_)
        have h := h x5 e_x5
        refine jB C [(.istore 4, 2, 0), (.iinc 5 1, 3, 1)] 43 [(5, .int (v5 + 1)), (4, .int x5), (6, .int r3), (0, .ref (b + v0)), (1, .ref (b + v1)), (2, rv b v2), (3, .int v3)] [] (by decide +kernel) rfl rfl ?_
        refine jGoto C 6 (by decide +kernel : decode cX2_glassBy 43 = .ok (.goto (-37), 3)) rfl ?_
        refine jSub [3, 4, 5, 6, 1, 0] rfl ?_
        exact ih x5 (v5 + 1) S2 h
theorem j_X2_glassBy_6 {p : Program} {l : Launch} {e : Env} {s : State} {m : MethodId} {args : Array Value} {below : List Frame} {meth : Method} {c : Code} {b : Nat} {D : va_G} {cy : Nat → ClassId} {G : Gm} {v0 : Nat} {v1 : Nat} {v2 : Option Nat} {v3 : Int32} {v4 : Int32} {v5 : Int32} {S : St} {Q : Int32 → St → Prop} (C : CX p s m args meth c b D cy cX2_glassBy RX2 7 (some .int)) (hE : s.heap.size + 0 ≤ b + G.2.2) (t_v0 : ok G 2 v0) (t_v1 : ok G 4 v1) (t_v2 : ∀ z, v2 = some z → ok G 7 z) (h : f_X2_glassBy_6 G v0 v1 v2 v3 Q v4 v5 S) : J p l e rm_X2_glassBy s m args below meth c b D cy 7 (zI b D cy below args s G Q) 0 0 G S 6 [(0, .ref (b + v0)), (1, .ref (b + v1)), (2, rv b v2), (3, .int v3), (4, .int v4), (5, .int v5)] [] := by
  obtain ⟨k, h⟩ := h
  exact j_X2_glassBy_6_n C hE t_v0 t_v1 t_v2 k v4 v5 S h
set_option maxHeartbeats 4000000 in
set_option maxRecDepth 100000 in
theorem j_X2_glassBy {p : Program} {l : Launch} {e : Env} {s : State} {m : MethodId} {args : Array Value} {below : List Frame} {meth : Method} {c : Code} {b : Nat} {D : va_G} {cy : Nat → ClassId} {G : Gm} {v0 : Nat} {v1 : Nat} {v2 : Option Nat} {v3 : Int32} {S : St} {Q : Int32 → St → Prop} (C : CX p s m args meth c b D cy cX2_glassBy RX2 7 (some .int)) (hE : s.heap.size + 0 ≤ b + G.2.2) (t_v0 : ok G 2 v0) (t_v1 : ok G 4 v1) (t_v2 : ∀ z, v2 = some z → ok G 7 z) (h : f_X2_glassBy G v0 v1 v2 v3 Q S) : J p l e rm_X2_glassBy s m args below meth c b D cy 7 (zI b D cy below args s G Q) 0 0 G S 0 [(0, .ref (b + v0)), (1, .ref (b + v1)), (2, rv b v2), (3, .int v3)] [] := by
  unfold f_X2_glassBy at h
  refine jB C [(.iconst 0, 1, 0), (.istore 4, 2, 0), (.iconst 0, 1, 0), (.istore 5, 2, 0)] 6 [(5, .int 0), (4, .int 0), (0, .ref (b + v0)), (1, .ref (b + v1)), (2, rv b v2), (3, .int v3)] [] (by decide +kernel) rfl rfl ?_
  refine jSub [2, 3, 4, 5, 1, 0] rfl ?_
  exact j_X2_glassBy_6 C hE t_v0 t_v1 t_v2 h
theorem ok_X2_glassBy {G : Gm} {v0 : Nat} {v1 : Nat} {v2 : Option Nat} {v3 : Int32} {S : St} {Q : Int32 → St → Prop}  (t_v0 : ok G 2 v0) (t_v1 : ok G 4 v1) (t_v2 : ∀ z, v2 = some z → ok G 7 z) (h : f_X2_glassBy G v0 v1 v2 v3 Q S) : MT yX2_glassBy cX2_glassBy 7 (some .int) rm_X2_glassBy 0 0 (fun b => [.ref (b + v0), .ref (b + v1), rv b v2, .int v3]) G S (QI (fun r G1 S1 => G1 = G ∧ Q r S1)) := MT.ofJ (by decide +kernel) (fun b => [(0, .ref (b + v0)), (1, .ref (b + v1)), (2, rv b v2), (3, .int v3)]) (fun b => by cases v2 <;> rfl) (fun b => by cases v2 <;> exact Nat.le_of_ble_eq_true rfl) (fun l b D cy p e s m below meth c C hE hn => j_X2_glassBy C hE t_v0 t_v1 t_v2 h)
theorem hd_X2_glassBy : yX2_glassBy.cls ≠ "java/lang/invoke/MethodHandle" ∧ yX2_glassBy.cls ≠ "java/lang/invoke/VarHandle" ∧ (parseMethodDescriptor yX2_glassBy.desc).map (fun d => d.parameters.length) = some 3 := by decide +kernel
abbrev rm_X5_setGlass : Room := { frames := 1, cells := 0, slots := 0, locals := 21 }
set_option maxHeartbeats 4000000 in
set_option maxRecDepth 100000 in
theorem j_X5_setGlass {p : Program} {l : Launch} {e : Env} {s : State} {m : MethodId} {args : Array Value} {below : List Frame} {meth : Method} {c : Code} {b : Nat} {D : va_G} {cy : Nat → ClassId} {G : Gm} {v0 : Nat} {v1 : Int32} {v2 : Int32} {S : St} {Q : St → Prop} (C : CX p s m args meth c b D cy cX5_setGlass RX5 3 none) (hE : s.heap.size + 0 ≤ b + G.2.2) (t_v0 : ok G 4 v0) (h : f_X5_setGlass G v0 v1 v2 Q S) : J p l e rm_X5_setGlass s m args below meth c b D cy 3 (zV b D cy below args s G Q) 0 0 G S 0 [(0, .ref (b + v0)), (1, .int v1), (2, .int v2)] [] := by
  unfold f_X5_setGlass at h
  refine jB C [(.aload_n 0, 1, 0), (.iload_n 1, 1, 0)] 2 [(0, .ref (b + v0)), (1, .int v1), (2, .int v2)] [.int v1, .ref (b + v0)] (by decide +kernel) rfl rfl ?_
  refine jcV_I C 5 (rest := []) (ok_X5_has t_v0 h) (by decide +kernel : decode cX5_setGlass 2 = .ok (.invokevirtual 66, 3)) rfl wd_371 wd_373 wp_4 wd_2 wd_374 ⟨rfl, rfl⟩ hd_X5_has ⟨Nat.le_of_ble_eq_true rfl, Nat.le_of_ble_eq_true rfl⟩ t_v0 kX5 (by decide) rfl rfl rfl (Nat.le_of_ble_eq_true rfl) ⟨Nat.zero_le _, Nat.zero_le _⟩ (fun r2 S1 h => ?_)
  refine jIf_eq C 8 15 (by decide +kernel : decode cX5_setGlass 5 = .ok (.ifCond .eq 10, 3)) rfl rfl (fun c3 => ?_) (fun c3 => ?_)
  · have h := it1 h c3
    exact jRetV C (by decide +kernel : decode cX5_setGlass 15 = .ok (.return_, 1)) (Nat.le_refl _) (Nat.le_refl _) ⟨rfl, h⟩
  · have h := it2 h c3
    refine jB C [(.aload_n 0, 1, 0)] 9 [(0, .ref (b + v0)), (1, .int v1), (2, .int v2)] [.ref (b + v0)] (by decide +kernel) rfl rfl ?_
    obtain ⟨a4, e_a4, h⟩ := h
    refine jGetR C 12 (by decide +kernel : decode cX5_setGlass 9 = .ok (.getfield 15, 3)) rfl t_v0 kX5 2 (by decide) rfl rfl (by decide) wd_42 e_a4 rfl (fun t_a4 => ?_)
    refine jB C [(.iload_n 1, 1, 0), (.iload_n 2, 1, 0)] 14 [(0, .ref (b + v0)), (1, .int v1), (2, .int v2)] [.int v2, .int v1, .ref (b + a4)] (by decide +kernel) rfl rfl ?_
    obtain ⟨y5, h⟩ := h
    refine jIast C 15 (by decide +kernel : decode cX5_setGlass 14 = .ok (.iastore, 1)) rfl hE t_a4 y5 ?_
    refine jTopS (fun S6 e_S6 => ?_)
    have h := h S6 e_S6
    exact jRetV C (by decide +kernel : decode cX5_setGlass 15 = .ok (.return_, 1)) (Nat.le_refl _) (Nat.le_refl _) ⟨rfl, h⟩
theorem ok_X5_setGlass {G : Gm} {v0 : Nat} {v1 : Int32} {v2 : Int32} {S : St} {Q : St → Prop}  (t_v0 : ok G 4 v0) (h : f_X5_setGlass G v0 v1 v2 Q S) : MT yX5_setGlass cX5_setGlass 3 none rm_X5_setGlass 0 0 (fun b => [.ref (b + v0), .int v1, .int v2]) G S (QV (fun G1 S1 => G1 = G ∧ Q S1)) := MT.ofJ (by decide +kernel) (fun b => [(0, .ref (b + v0)), (1, .int v1), (2, .int v2)]) (fun b => rfl) (fun b => Nat.le_of_ble_eq_true rfl) (fun l b D cy p e s m below meth c C hE hn => j_X5_setGlass C hE t_v0 h)
theorem hd_X5_setGlass : yX5_setGlass.cls ≠ "java/lang/invoke/MethodHandle" ∧ yX5_setGlass.cls ≠ "java/lang/invoke/VarHandle" ∧ (parseMethodDescriptor yX5_setGlass.desc).map (fun d => d.parameters.length) = some 2 := by decide +kernel
abbrev rm_X3_lensesIn : Room := { frames := 0, cells := 0, slots := 0, locals := 0 }
set_option maxHeartbeats 4000000 in
set_option maxRecDepth 100000 in
theorem j_X3_lensesIn_17_n {p : Program} {l : Launch} {e : Env} {s : State} {m : MethodId} {args : Array Value} {below : List Frame} {meth : Method} {c : Code} {b : Nat} {D : va_G} {cy : Nat → ClassId} {G : Gm} {Q : Int32 → St → Prop} (C : CX p s m args meth c b D cy cX3_lensesIn RX3 4 (some .int)) (hE : s.heap.size + 0 ≤ b + G.2.2) : ∀ k (v1 : Int32) (v2 : Int32) S, f_X3_lensesIn_17_n G Q k v1 v2 S → J p l e rm_X3_lensesIn s m args below meth c b D cy 4 (zI b D cy below args s G Q) 0 0 G S 17 [(1, .int v1), (2, .int v2)] [] := by
  intro k
  induction k with
  | zero => intro v1 v2 S h; exact h.elim
  | succ k ih =>
    intro v1 v2 S h
    unfold f_X3_lensesIn_17_n at h
    refine jB C [(.iload_n 2, 1, 0)] 18 [(1, .int v1), (2, .int v2)] [.int v2] (by decide +kernel) rfl rfl ?_
    refine jIf_le C 21 50 (by decide +kernel : decode cX3_lensesIn 18 = .ok (.ifCond .le 32, 3)) rfl rfl (fun c1 => ?_) (fun c1 => ?_)
    · have h := it1 h c1
      refine jB C [(.iload_n 1, 1, 0)] 51 [(1, .int v1), (2, .int v2)] [.int v1] (by decide +kernel) rfl rfl ?_
      exact jRetI C (by decide +kernel : decode cX3_lensesIn 51 = .ok (.ireturn, 1)) (Nat.le_refl _) (Nat.le_refl _) ⟨rfl, h⟩
    · have h := it2 h c1
      refine jB C [(.iload_n 2, 1, 0), (.bipush 10, 2, 10)] 24 [(1, .int v1), (2, .int v2)] [.int 10, .int v2] (by decide +kernel) rfl rfl ?_
      refine jIrem C 25 (by decide +kernel : decode cX3_lensesIn 24 = .ok (.irem, 1)) rfl (by decide) ?_
      refine jTopI (fun x2 e_x2 => ?_)
      have h := h x2 e_x2
      refine jB C [(.istore_n 3, 1, 0), (.iload_n 3, 1, 0), (.iconst 1, 1, 1)] 28 [(3, .int x2), (1, .int v1), (2, .int v2)] [.int 1, .int x2] (by decide +kernel) rfl rfl ?_
      refine jIcmp_lt C 31 37 (by decide +kernel : decode cX3_lensesIn 28 = .ok (.if_icmp .lt 9, 3)) rfl rfl (fun c3 => ?_) (fun c3 => ?_)
      · have h := it1 h c3
        refine jB C [(.iconst (-1), 1, (-1))] 38 [(3, .int x2), (1, .int v1), (2, .int v2)] [.int (-1)] (by decide +kernel) rfl rfl ?_
        exact jRetI C (by decide +kernel : decode cX3_lensesIn 38 = .ok (.ireturn, 1)) (Nat.le_refl _) (Nat.le_refl _) ⟨rfl, h⟩
      · have h := it2 h c3
        refine jB C [(.iload_n 3, 1, 0), (.bipush 8, 2, 8)] 34 [(3, .int x2), (1, .int v1), (2, .int v2)] [.int 8, .int x2] (by decide +kernel) rfl rfl ?_
        refine jIcmp_le C 37 39 (by decide +kernel : decode cX3_lensesIn 34 = .ok (.if_icmp .le 5, 3)) rfl rfl (fun c4 => ?_) (fun c4 => ?_)
        · have h := it1 h c4
          refine jB C [(.iinc 1 1, 3, 1), (.iload_n 2, 1, 0), (.bipush 10, 2, 10)] 45 [(1, .int (v1 + 1)), (3, .int x2), (2, .int v2)] [.int 10, .int v2] (by decide +kernel) rfl rfl ?_
          refine jIdiv C 46 (by decide +kernel : decode cX3_lensesIn 45 = .ok (.idiv, 1)) rfl (by decide) ?_
          refine jTopI (fun x5 e_x5 => ?_)
          have h := h x5 e_x5
          refine jB C [(.istore_n 2, 1, 0)] 47 [(2, .int x5), (1, .int (v1 + 1)), (3, .int x2)] [] (by decide +kernel) rfl rfl ?_
          refine jGoto C 17 (by decide +kernel : decode cX3_lensesIn 47 = .ok (.goto (-30), 3)) rfl ?_
          refine jSub [1, 0] rfl ?_
          exact ih (v1 + 1) x5 S h
        · have h := it2 h c4
          refine jB C [(.iconst (-1), 1, (-1))] 38 [(3, .int x2), (1, .int v1), (2, .int v2)] [.int (-1)] (by decide +kernel) rfl rfl ?_
          exact jRetI C (by decide +kernel : decode cX3_lensesIn 38 = .ok (.ireturn, 1)) (Nat.le_refl _) (Nat.le_refl _) ⟨rfl, h⟩
theorem j_X3_lensesIn_17 {p : Program} {l : Launch} {e : Env} {s : State} {m : MethodId} {args : Array Value} {below : List Frame} {meth : Method} {c : Code} {b : Nat} {D : va_G} {cy : Nat → ClassId} {G : Gm} {v1 : Int32} {v2 : Int32} {S : St} {Q : Int32 → St → Prop} (C : CX p s m args meth c b D cy cX3_lensesIn RX3 4 (some .int)) (hE : s.heap.size + 0 ≤ b + G.2.2) (h : f_X3_lensesIn_17 G Q v1 v2 S) : J p l e rm_X3_lensesIn s m args below meth c b D cy 4 (zI b D cy below args s G Q) 0 0 G S 17 [(1, .int v1), (2, .int v2)] [] := by
  obtain ⟨k, h⟩ := h
  exact j_X3_lensesIn_17_n C hE k v1 v2 S h
set_option maxHeartbeats 4000000 in
set_option maxRecDepth 100000 in
theorem j_X3_lensesIn {p : Program} {l : Launch} {e : Env} {s : State} {m : MethodId} {args : Array Value} {below : List Frame} {meth : Method} {c : Code} {b : Nat} {D : va_G} {cy : Nat → ClassId} {G : Gm} {v0 : Int32} {S : St} {Q : Int32 → St → Prop} (C : CX p s m args meth c b D cy cX3_lensesIn RX3 4 (some .int)) (hE : s.heap.size + 0 ≤ b + G.2.2) (h : f_X3_lensesIn G v0 Q S) : J p l e rm_X3_lensesIn s m args below meth c b D cy 4 (zI b D cy below args s G Q) 0 0 G S 0 [(0, .int v0)] [] := by
  unfold f_X3_lensesIn at h
  refine jB C [(.iload_n 0, 1, 0)] 1 [(0, .int v0)] [.int v0] (by decide +kernel) rfl rfl ?_
  refine jIf_lt C 4 11 (by decide +kernel : decode cX3_lensesIn 1 = .ok (.ifCond .lt 10, 3)) rfl rfl (fun c1 => ?_) (fun c1 => ?_)
  · have h := it1 h c1
    refine jB C [(.iconst (-1), 1, (-1))] 12 [(0, .int v0)] [.int (-1)] (by decide +kernel) rfl rfl ?_
    exact jRetI C (by decide +kernel : decode cX3_lensesIn 12 = .ok (.ireturn, 1)) (Nat.le_refl _) (Nat.le_refl _) ⟨rfl, h⟩
  · have h := it2 h c1
    refine jB C [(.iload_n 0, 1, 0), (.sipush 8888, 3, 8888)] 8 [(0, .int v0)] [.int 8888, .int v0] (by decide +kernel) rfl rfl ?_
    refine jIcmp_le C 11 13 (by decide +kernel : decode cX3_lensesIn 8 = .ok (.if_icmp .le 5, 3)) rfl rfl (fun c2 => ?_) (fun c2 => ?_)
    · have h := it1 h c2
      refine jB C [(.iconst 0, 1, 0), (.istore_n 1, 1, 0), (.iload_n 0, 1, 0), (.istore_n 2, 1, 0)] 17 [(2, .int v0), (1, .int 0), (0, .int v0)] [] (by decide +kernel) rfl rfl ?_
      refine jSub [1, 0] rfl ?_
      exact j_X3_lensesIn_17 C hE h
    · have h := it2 h c2
      refine jB C [(.iconst (-1), 1, (-1))] 12 [(0, .int v0)] [.int (-1)] (by decide +kernel) rfl rfl ?_
      exact jRetI C (by decide +kernel : decode cX3_lensesIn 12 = .ok (.ireturn, 1)) (Nat.le_refl _) (Nat.le_refl _) ⟨rfl, h⟩
theorem ok_X3_lensesIn {G : Gm} {v0 : Int32} {S : St} {Q : Int32 → St → Prop}  (h : f_X3_lensesIn G v0 Q S) : MT yX3_lensesIn cX3_lensesIn 4 (some .int) rm_X3_lensesIn 0 0 (fun b => [.int v0]) G S (QI (fun r G1 S1 => G1 = G ∧ Q r S1)) := MT.ofJ (by decide +kernel) (fun b => [(0, .int v0)]) (fun b => rfl) (fun b => Nat.le_of_ble_eq_true rfl) (fun l b D cy p e s m below meth c C hE hn => j_X3_lensesIn C hE h)
theorem hd_X3_lensesIn : yX3_lensesIn.cls ≠ "java/lang/invoke/MethodHandle" ∧ yX3_lensesIn.cls ≠ "java/lang/invoke/VarHandle" ∧ (parseMethodDescriptor yX3_lensesIn.desc).map (fun d => d.parameters.length) = some 1 := by decide +kernel
abbrev rm_X1_exchange : Room := { frames := 2, cells := 0, slots := 0, locals := 43 }
set_option maxHeartbeats 4000000 in
set_option maxRecDepth 100000 in
theorem j_X1_exchange {p : Program} {l : Launch} {e : Env} {s : State} {m : MethodId} {args : Array Value} {below : List Frame} {meth : Method} {c : Code} {b : Nat} {D : va_G} {cy : Nat → ClassId} {G : Gm} {v0 : Nat} {v1 : Int32} {v2 : Int32} {S : St} {Q : Int32 → St → Prop} (C : CX p s m args meth c b D cy cX1_exchange RX1 4 (some .int)) (hE : s.heap.size + 0 ≤ b + G.2.2) (t_v0 : ok G 4 v0) (h : f_X1_exchange G v0 v1 v2 Q S) : J p l e rm_X1_exchange s m args below meth c b D cy 4 (zI b D cy below args s G Q) 0 0 G S 0 [(0, .ref (b + v0)), (1, .int v1), (2, .int v2)] [] := by
  unfold f_X1_exchange at h
  refine jB C [(.aload_n 0, 1, 0), (.iload_n 1, 1, 0)] 2 [(0, .ref (b + v0)), (1, .int v1), (2, .int v2)] [.int v1, .ref (b + v0)] (by decide +kernel) rfl rfl ?_
  refine jcVN_I C 5 (rest := []) (ok_X5_glassOf t_v0 h) (by decide +kernel : decode cX1_exchange 2 = .ok (.invokevirtual 54, 3)) rfl wn_830 wd_402 wp_9 wd_2 wd_403 ⟨rfl, rfl⟩ hd_X5_glassOf ⟨Nat.le_of_ble_eq_true rfl, Nat.le_of_ble_eq_true rfl⟩ t_v0 kX5 (by decide) rfl rfl rfl (Nat.le_of_ble_eq_true rfl) ⟨Nat.zero_le _, Nat.zero_le _⟩ (fun r2 S1 h => ?_)
  refine jB C [(.istore_n 3, 1, 0), (.aload_n 0, 1, 0), (.iload_n 1, 1, 0), (.aload_n 0, 1, 0), (.iload_n 2, 1, 0)] 10 [(3, .int r2), (0, .ref (b + v0)), (1, .int v1), (2, .int v2)] [.int v2, .ref (b + v0), .int v1, .ref (b + v0)] (by decide +kernel) rfl rfl ?_
  refine jcVN_I C 13 (rest := [.int v1, .ref (b + v0)]) (ok_X5_glassOf t_v0 h) (by decide +kernel : decode cX1_exchange 10 = .ok (.invokevirtual 54, 3)) rfl wn_830 wd_402 wp_9 wd_2 wd_403 ⟨rfl, rfl⟩ hd_X5_glassOf ⟨Nat.le_of_ble_eq_true rfl, Nat.le_of_ble_eq_true rfl⟩ t_v0 kX5 (by decide) rfl rfl rfl (Nat.le_of_ble_eq_true rfl) ⟨Nat.zero_le _, Nat.zero_le _⟩ (fun r4 S3 h => ?_)
  refine jcVN_V C 16 (rest := []) (ok_X5_setGlass t_v0 h) (by decide +kernel : decode cX1_exchange 13 = .ok (.invokevirtual 50, 3)) rfl wn_848 wd_381 wp_5 wd_2 wd_382 ⟨rfl, rfl⟩ hd_X5_setGlass ⟨Nat.le_of_ble_eq_true rfl, Nat.le_of_ble_eq_true rfl⟩ t_v0 kX5 (by decide) rfl rfl rfl (Nat.le_of_ble_eq_true rfl) ⟨Nat.zero_le _, Nat.zero_le _⟩ (fun S5 h => ?_)
  refine jB C [(.aload_n 0, 1, 0), (.iload_n 2, 1, 0), (.iload_n 3, 1, 0)] 19 [(3, .int r2), (0, .ref (b + v0)), (1, .int v1), (2, .int v2)] [.int r2, .int v2, .ref (b + v0)] (by decide +kernel) rfl rfl ?_
  refine jcVN_V C 22 (rest := []) (ok_X5_setGlass t_v0 h) (by decide +kernel : decode cX1_exchange 19 = .ok (.invokevirtual 50, 3)) rfl wn_848 wd_381 wp_5 wd_2 wd_382 ⟨rfl, rfl⟩ hd_X5_setGlass ⟨Nat.le_of_ble_eq_true rfl, Nat.le_of_ble_eq_true rfl⟩ t_v0 kX5 (by decide) rfl rfl rfl (Nat.le_of_ble_eq_true rfl) ⟨Nat.zero_le _, Nat.zero_le _⟩ (fun S6 h => ?_)
  refine jB C [(.iload_n 3, 1, 0)] 23 [(3, .int r2), (0, .ref (b + v0)), (1, .int v1), (2, .int v2)] [.int r2] (by decide +kernel) rfl rfl ?_
  refine jcSN_I C 26 (rest := []) (ok_X3_lensesIn h) (by decide +kernel : decode cX1_exchange 23 = .ok (.invokestatic 58, 3)) rfl wn_849 wd_408 wd_13 wd_409 ⟨rfl, rfl⟩ hd_X3_lensesIn ⟨Nat.le_of_ble_eq_true rfl, Nat.le_of_ble_eq_true rfl⟩ rfl rfl (Nat.le_of_ble_eq_true rfl) ⟨Nat.zero_le _, Nat.zero_le _⟩ (fun r8 S7 h => ?_)
  refine jB C [(.aload_n 0, 1, 0), (.iload_n 1, 1, 0)] 28 [(3, .int r2), (0, .ref (b + v0)), (1, .int v1), (2, .int v2)] [.int v1, .ref (b + v0), .int r8] (by decide +kernel) rfl rfl ?_
  refine jcVN_I C 31 (rest := [.int r8]) (ok_X5_glassOf t_v0 h) (by decide +kernel : decode cX1_exchange 28 = .ok (.invokevirtual 54, 3)) rfl wn_830 wd_402 wp_9 wd_2 wd_403 ⟨rfl, rfl⟩ hd_X5_glassOf ⟨Nat.le_of_ble_eq_true rfl, Nat.le_of_ble_eq_true rfl⟩ t_v0 kX5 (by decide) rfl rfl rfl (Nat.le_of_ble_eq_true rfl) ⟨Nat.zero_le _, Nat.zero_le _⟩ (fun r10 S9 h => ?_)
  refine jcSN_I C 34 (rest := [.int r8]) (ok_X3_lensesIn h) (by decide +kernel : decode cX1_exchange 31 = .ok (.invokestatic 58, 3)) rfl wn_849 wd_408 wd_13 wd_409 ⟨rfl, rfl⟩ hd_X3_lensesIn ⟨Nat.le_of_ble_eq_true rfl, Nat.le_of_ble_eq_true rfl⟩ rfl rfl (Nat.le_of_ble_eq_true rfl) ⟨Nat.zero_le _, Nat.zero_le _⟩ (fun r12 S11 h => ?_)
  refine jB C [(.iadd, 1, 0)] 35 [(3, .int r2), (0, .ref (b + v0)), (1, .int v1), (2, .int v2)] [.int (r8 + r12)] (by decide +kernel) rfl rfl ?_
  exact jRetI C (by decide +kernel : decode cX1_exchange 35 = .ok (.ireturn, 1)) (Nat.le_refl _) (Nat.le_refl _) ⟨rfl, h⟩
theorem ok_X1_exchange {G : Gm} {v0 : Nat} {v1 : Int32} {v2 : Int32} {S : St} {Q : Int32 → St → Prop}  (t_v0 : ok G 4 v0) (h : f_X1_exchange G v0 v1 v2 Q S) : MT yX1_exchange cX1_exchange 4 (some .int) rm_X1_exchange 0 0 (fun b => [.ref (b + v0), .int v1, .int v2]) G S (QI (fun r G1 S1 => G1 = G ∧ Q r S1)) := MT.ofJ (by decide +kernel) (fun b => [(0, .ref (b + v0)), (1, .int v1), (2, .int v2)]) (fun b => rfl) (fun b => Nat.le_of_ble_eq_true rfl) (fun l b D cy p e s m below meth c C hE hn => j_X1_exchange C hE t_v0 h)
theorem hd_X1_exchange : yX1_exchange.cls ≠ "java/lang/invoke/MethodHandle" ∧ yX1_exchange.cls ≠ "java/lang/invoke/VarHandle" ∧ (parseMethodDescriptor yX1_exchange.desc).map (fun d => d.parameters.length) = some 3 := by decide +kernel
abbrev rm_X1_takeOff : Room := { frames := 2, cells := 0, slots := 0, locals := 43 }
set_option maxHeartbeats 4000000 in
set_option maxRecDepth 100000 in
theorem j_X1_takeOff {p : Program} {l : Launch} {e : Env} {s : State} {m : MethodId} {args : Array Value} {below : List Frame} {meth : Method} {c : Code} {b : Nat} {D : va_G} {cy : Nat → ClassId} {G : Gm} {v0 : Nat} {v1 : Int32} {S : St} {Q : Int32 → St → Prop} (C : CX p s m args meth c b D cy cX1_takeOff RX1 3 (some .int)) (hE : s.heap.size + 0 ≤ b + G.2.2) (t_v0 : ok G 4 v0) (h : f_X1_takeOff G v0 v1 Q S) : J p l e rm_X1_takeOff s m args below meth c b D cy 3 (zI b D cy below args s G Q) 0 0 G S 0 [(0, .ref (b + v0)), (1, .int v1)] [] := by
  unfold f_X1_takeOff at h
  refine jB C [(.aload_n 0, 1, 0), (.iload_n 1, 1, 0)] 2 [(0, .ref (b + v0)), (1, .int v1)] [.int v1, .ref (b + v0)] (by decide +kernel) rfl rfl ?_
  refine jcVN_I C 5 (rest := []) (ok_X5_glassOf t_v0 h) (by decide +kernel : decode cX1_takeOff 2 = .ok (.invokevirtual 54, 3)) rfl wn_830 wd_402 wp_9 wd_2 wd_403 ⟨rfl, rfl⟩ hd_X5_glassOf ⟨Nat.le_of_ble_eq_true rfl, Nat.le_of_ble_eq_true rfl⟩ t_v0 kX5 (by decide) rfl rfl rfl (Nat.le_of_ble_eq_true rfl) ⟨Nat.zero_le _, Nat.zero_le _⟩ (fun r2 S1 h => ?_)
  refine jcSN_I C 8 (rest := []) (ok_X3_lensesIn h) (by decide +kernel : decode cX1_takeOff 5 = .ok (.invokestatic 58, 3)) rfl wn_849 wd_408 wd_13 wd_409 ⟨rfl, rfl⟩ hd_X3_lensesIn ⟨Nat.le_of_ble_eq_true rfl, Nat.le_of_ble_eq_true rfl⟩ rfl rfl (Nat.le_of_ble_eq_true rfl) ⟨Nat.zero_le _, Nat.zero_le _⟩ (fun r4 S3 h => ?_)
  refine jB C [(.istore_n 2, 1, 0), (.aload_n 0, 1, 0), (.iload_n 1, 1, 0), (.iconst 0, 1, 0)] 12 [(2, .int r4), (0, .ref (b + v0)), (1, .int v1)] [.int 0, .int v1, .ref (b + v0)] (by decide +kernel) rfl rfl ?_
  refine jcVN_V C 15 (rest := []) (ok_X5_setGlass t_v0 h) (by decide +kernel : decode cX1_takeOff 12 = .ok (.invokevirtual 50, 3)) rfl wn_848 wd_381 wp_5 wd_2 wd_382 ⟨rfl, rfl⟩ hd_X5_setGlass ⟨Nat.le_of_ble_eq_true rfl, Nat.le_of_ble_eq_true rfl⟩ t_v0 kX5 (by decide) rfl rfl rfl (Nat.le_of_ble_eq_true rfl) ⟨Nat.zero_le _, Nat.zero_le _⟩ (fun S5 h => ?_)
  refine jB C [(.iload_n 2, 1, 0)] 16 [(2, .int r4), (0, .ref (b + v0)), (1, .int v1)] [.int r4] (by decide +kernel) rfl rfl ?_
  exact jRetI C (by decide +kernel : decode cX1_takeOff 16 = .ok (.ireturn, 1)) (Nat.le_refl _) (Nat.le_refl _) ⟨rfl, h⟩
theorem ok_X1_takeOff {G : Gm} {v0 : Nat} {v1 : Int32} {S : St} {Q : Int32 → St → Prop}  (t_v0 : ok G 4 v0) (h : f_X1_takeOff G v0 v1 Q S) : MT yX1_takeOff cX1_takeOff 3 (some .int) rm_X1_takeOff 0 0 (fun b => [.ref (b + v0), .int v1]) G S (QI (fun r G1 S1 => G1 = G ∧ Q r S1)) := MT.ofJ (by decide +kernel) (fun b => [(0, .ref (b + v0)), (1, .int v1)]) (fun b => rfl) (fun b => Nat.le_of_ble_eq_true rfl) (fun l b D cy p e s m below meth c C hE hn => j_X1_takeOff C hE t_v0 h)
theorem hd_X1_takeOff : yX1_takeOff.cls ≠ "java/lang/invoke/MethodHandle" ∧ yX1_takeOff.cls ≠ "java/lang/invoke/VarHandle" ∧ (parseMethodDescriptor yX1_takeOff.desc).map (fun d => d.parameters.length) = some 2 := by decide +kernel
abbrev rm_X2_growth : Room := { frames := 3, cells := 0, slots := 0, locals := 82 }
set_option maxHeartbeats 4000000 in
set_option maxRecDepth 100000 in
theorem j_X2_growth {p : Program} {l : Launch} {e : Env} {s : State} {m : MethodId} {args : Array Value} {below : List Frame} {meth : Method} {c : Code} {b : Nat} {D : va_G} {cy : Nat → ClassId} {G : Gm} {v0 : Nat} {v1 : Nat} {v2 : Int32} {v3 : Int32} {S : St} {Q : Int32 → St → Prop} (C : CX p s m args meth c b D cy cX2_growth RX2 5 (some .int)) (hE : s.heap.size + 0 ≤ b + G.2.2) (t_v0 : ok G 2 v0) (t_v1 : ok G 4 v1) (h : f_X2_growth G v0 v1 v2 v3 Q S) : J p l e rm_X2_growth s m args below meth c b D cy 5 (zI b D cy below args s G Q) 0 0 G S 0 [(0, .ref (b + v0)), (1, .ref (b + v1)), (2, .int v2), (3, .int v3)] [] := by
  unfold f_X2_growth at h
  refine jB C [(.aload_n 0, 1, 0), (.aload_n 1, 1, 0), (.iload_n 2, 1, 0), (.iload_n 3, 1, 0)] 4 [(0, .ref (b + v0)), (1, .ref (b + v1)), (2, .int v2), (3, .int v3)] [.int v3, .int v2, .ref (b + v1), .ref (b + v0)] (by decide +kernel) rfl rfl ?_
  refine jcV_V C 7 (rest := []) (ok_X2_aboutSin t_v0 t_v1 h) (by decide +kernel : decode cX2_growth 4 = .ok (.invokevirtual 22, 3)) rfl wd_504 wd_506 wp_25 wd_4 wd_507 ⟨rfl, rfl⟩ hd_X2_aboutSin ⟨Nat.le_of_ble_eq_true rfl, Nat.le_of_ble_eq_true rfl⟩ t_v0 kX2 (by decide) rfl rfl rfl (Nat.le_of_ble_eq_true rfl) ⟨Nat.zero_le _, Nat.zero_le _⟩ (fun S1 h => ?_)
  refine jB C [(.aload_n 0, 1, 0), (.aload_n 1, 1, 0)] 9 [(0, .ref (b + v0)), (1, .ref (b + v1)), (2, .int v2), (3, .int v3)] [.ref (b + v1), .ref (b + v0)] (by decide +kernel) rfl rfl ?_
  refine jcVN_O C 12 (rest := [.ref (b + v0)]) (ok_X5_lawInForce t_v1 h) (by decide +kernel : decode cX2_growth 9 = .ok (.invokevirtual 41, 3)) rfl wn_445 wd_447 wp_15 wd_2 wd_448 ⟨rfl, rfl⟩ hd_X5_lawInForce ⟨Nat.le_of_ble_eq_true rfl, Nat.le_of_ble_eq_true rfl⟩ t_v1 kX5 (by decide) rfl rfl rfl (Nat.le_of_ble_eq_true rfl) ⟨Nat.zero_le _, Nat.zero_le _⟩ (fun r3 S2 h => ?_)
  obtain ⟨t4, h⟩ := h
  refine jB C [(.iconst 1, 1, 1)] 13 [(0, .ref (b + v0)), (1, .ref (b + v1)), (2, .int v2), (3, .int v3)] [.int 1, rv b r3, .ref (b + v0)] (by decide +kernel) rfl rfl ?_
  refine jcV_I C 16 (rest := []) (ok_X2_lastTold t_v0 t4 h) (by decide +kernel : decode cX2_growth 13 = .ok (.invokevirtual 26, 3)) rfl wd_457 wd_459 wp_18 wd_4 wd_460 ⟨rfl, rfl⟩ hd_X2_lastTold ⟨Nat.le_of_ble_eq_true rfl, Nat.le_of_ble_eq_true rfl⟩ t_v0 kX2 (by decide) rfl rfl rfl (Nat.le_of_ble_eq_true rfl) ⟨Nat.zero_le _, Nat.zero_le _⟩ (fun r6 S5 h => ?_)
  refine jB C [(.istore 4, 2, 0), (.iload 4, 2, 0)] 20 [(4, .int r6), (0, .ref (b + v0)), (1, .ref (b + v1)), (2, .int v2), (3, .int v3)] [.int r6] (by decide +kernel) rfl rfl ?_
  refine jLdc C 22 (by decide +kernel : decode cX2_growth 20 = .ok (.ldc 30, 2)) rfl wd_461 ?_
  refine jIcmp_ne C 25 29 (by decide +kernel : decode cX2_growth 22 = .ok (.if_icmp .ne 7, 3)) rfl rfl (fun c7 => ?_) (fun c7 => ?_)
  · have h := it2 h c7
    refine jB C [(.iload 4, 2, 0), (.bipush (-8), 2, (-8)), (.bipush 8, 2, 8)] 35 [(4, .int r6), (0, .ref (b + v0)), (1, .ref (b + v1)), (2, .int v2), (3, .int v3)] [.int 8, .int (-8), .int r6] (by decide +kernel) rfl rfl ?_
    refine jcSN_I C 38 (rest := []) (ok_X10_nearest h) (by decide +kernel : decode cX2_growth 35 = .ok (.invokestatic 31, 3)) rfl wn_484 wd_241 wd_1 wd_242 ⟨rfl, rfl⟩ hd_X10_nearest ⟨Nat.le_of_ble_eq_true rfl, Nat.le_of_ble_eq_true rfl⟩ rfl rfl (Nat.le_of_ble_eq_true rfl) ⟨Nat.zero_le _, Nat.zero_le _⟩ (fun r9 S8 h => ?_)
    exact jRetI C (by decide +kernel : decode cX2_growth 38 = .ok (.ireturn, 1)) (Nat.le_refl _) (Nat.le_refl _) ⟨rfl, h⟩
  · have h := it1 h c7
    refine jB C [(.iconst 0, 1, 0)] 26 [(4, .int r6), (0, .ref (b + v0)), (1, .ref (b + v1)), (2, .int v2), (3, .int v3)] [.int 0] (by decide +kernel) rfl rfl ?_
    refine jGoto C 38 (by decide +kernel : decode cX2_growth 26 = .ok (.goto 12, 3)) rfl ?_
    exact jRetI C (by decide +kernel : decode cX2_growth 38 = .ok (.ireturn, 1)) (Nat.le_refl _) (Nat.le_refl _) ⟨rfl, h⟩
theorem ok_X2_growth {G : Gm} {v0 : Nat} {v1 : Nat} {v2 : Int32} {v3 : Int32} {S : St} {Q : Int32 → St → Prop}  (t_v0 : ok G 2 v0) (t_v1 : ok G 4 v1) (h : f_X2_growth G v0 v1 v2 v3 Q S) : MT yX2_growth cX2_growth 5 (some .int) rm_X2_growth 0 0 (fun b => [.ref (b + v0), .ref (b + v1), .int v2, .int v3]) G S (QI (fun r G1 S1 => G1 = G ∧ Q r S1)) := MT.ofJ (by decide +kernel) (fun b => [(0, .ref (b + v0)), (1, .ref (b + v1)), (2, .int v2), (3, .int v3)]) (fun b => rfl) (fun b => Nat.le_of_ble_eq_true rfl) (fun l b D cy p e s m below meth c C hE hn => j_X2_growth C hE t_v0 t_v1 h)
theorem hd_X2_growth : yX2_growth.cls ≠ "java/lang/invoke/MethodHandle" ∧ yX2_growth.cls ≠ "java/lang/invoke/VarHandle" ∧ (parseMethodDescriptor yX2_growth.desc).map (fun d => d.parameters.length) = some 3 := by decide +kernel
abbrev rm_X5_setTerm : Room := { frames := 0, cells := 0, slots := 0, locals := 0 }
set_option maxHeartbeats 4000000 in
set_option maxRecDepth 100000 in
theorem j_X5_setTerm {p : Program} {l : Launch} {e : Env} {s : State} {m : MethodId} {args : Array Value} {below : List Frame} {meth : Method} {c : Code} {b : Nat} {D : va_G} {cy : Nat → ClassId} {G : Gm} {v0 : Nat} {v1 : Int32} {v2 : Int32} {S : St} {Q : St → Prop} (C : CX p s m args meth c b D cy cX5_setTerm RX5 3 none) (hE : s.heap.size + 0 ≤ b + G.2.2) (t_v0 : ok G 4 v0) (h : f_X5_setTerm G v0 v1 v2 Q S) : J p l e rm_X5_setTerm s m args below meth c b D cy 3 (zV b D cy below args s G Q) 0 0 G S 0 [(0, .ref (b + v0)), (1, .int v1), (2, .int v2)] [] := by
  unfold f_X5_setTerm at h
  refine jB C [(.iload_n 1, 1, 0)] 1 [(0, .ref (b + v0)), (1, .int v1), (2, .int v2)] [.int v1] (by decide +kernel) rfl rfl ?_
  refine jIf_lt C 4 16 (by decide +kernel : decode cX5_setTerm 1 = .ok (.ifCond .lt 15, 3)) rfl rfl (fun c1 => ?_) (fun c1 => ?_)
  · have h := it1 h c1
    exact jRetV C (by decide +kernel : decode cX5_setTerm 16 = .ok (.return_, 1)) (Nat.le_refl _) (Nat.le_refl _) ⟨rfl, h⟩
  · have h := it2 h c1
    refine jB C [(.iload_n 1, 1, 0), (.iconst 4, 1, 4)] 6 [(0, .ref (b + v0)), (1, .int v1), (2, .int v2)] [.int 4, .int v1] (by decide +kernel) rfl rfl ?_
    refine jIcmp_ge C 9 16 (by decide +kernel : decode cX5_setTerm 6 = .ok (.if_icmp .ge 10, 3)) rfl rfl (fun c2 => ?_) (fun c2 => ?_)
    · have h := it1 h c2
      exact jRetV C (by decide +kernel : decode cX5_setTerm 16 = .ok (.return_, 1)) (Nat.le_refl _) (Nat.le_refl _) ⟨rfl, h⟩
    · have h := it2 h c2
      refine jB C [(.aload_n 0, 1, 0)] 10 [(0, .ref (b + v0)), (1, .int v1), (2, .int v2)] [.ref (b + v0)] (by decide +kernel) rfl rfl ?_
      obtain ⟨a3, e_a3, h⟩ := h
      refine jGetR C 13 (by decide +kernel : decode cX5_setTerm 10 = .ok (.getfield 21, 3)) rfl t_v0 kX5 4 (by decide) rfl rfl (by decide) wd_45 e_a3 rfl (fun t_a3 => ?_)
      refine jB C [(.iload_n 1, 1, 0), (.iload_n 2, 1, 0)] 15 [(0, .ref (b + v0)), (1, .int v1), (2, .int v2)] [.int v2, .int v1, .ref (b + a3)] (by decide +kernel) rfl rfl ?_
      obtain ⟨y4, h⟩ := h
      refine jIast C 16 (by decide +kernel : decode cX5_setTerm 15 = .ok (.iastore, 1)) rfl hE t_a3 y4 ?_
      refine jTopS (fun S5 e_S5 => ?_)
      have h := h S5 e_S5
      exact jRetV C (by decide +kernel : decode cX5_setTerm 16 = .ok (.return_, 1)) (Nat.le_refl _) (Nat.le_refl _) ⟨rfl, h⟩
theorem ok_X5_setTerm {G : Gm} {v0 : Nat} {v1 : Int32} {v2 : Int32} {S : St} {Q : St → Prop}  (t_v0 : ok G 4 v0) (h : f_X5_setTerm G v0 v1 v2 Q S) : MT yX5_setTerm cX5_setTerm 3 none rm_X5_setTerm 0 0 (fun b => [.ref (b + v0), .int v1, .int v2]) G S (QV (fun G1 S1 => G1 = G ∧ Q S1)) := MT.ofJ (by decide +kernel) (fun b => [(0, .ref (b + v0)), (1, .int v1), (2, .int v2)]) (fun b => rfl) (fun b => Nat.le_of_ble_eq_true rfl) (fun l b D cy p e s m below meth c C hE hn => j_X5_setTerm C hE t_v0 h)
theorem hd_X5_setTerm : yX5_setTerm.cls ≠ "java/lang/invoke/MethodHandle" ∧ yX5_setTerm.cls ≠ "java/lang/invoke/VarHandle" ∧ (parseMethodDescriptor yX5_setTerm.desc).map (fun d => d.parameters.length) = some 2 := by decide +kernel
abbrev rm_X1_nextDay : Room := { frames := 4, cells := 0, slots := 0, locals := 106 }
set_option maxHeartbeats 4000000 in
set_option maxRecDepth 100000 in
theorem j_X1_nextDay_103 {p : Program} {l : Launch} {e : Env} {s : State} {m : MethodId} {args : Array Value} {below : List Frame} {meth : Method} {c : Code} {b : Nat} {D : va_G} {cy : Nat → ClassId} {G : Gm} {v1 : Nat} {S : St} {Q : Int32 → St → Prop} (C : CX p s m args meth c b D cy cX1_nextDay RX1 4 (some .int)) (hE : s.heap.size + 0 ≤ b + G.2.2) (t_v1 : ok G 4 v1) (h : f_X1_nextDay_103 G v1 Q S) : J p l e rm_X1_nextDay s m args below meth c b D cy 4 (zI b D cy below args s G Q) 0 0 G S 103 [(1, .ref (b + v1))] [] := by
  unfold f_X1_nextDay_103 at h
  refine jB C [(.aload_n 1, 1, 0), (.iconst 0, 1, 0), (.aload_n 1, 1, 0), (.iconst 0, 1, 0)] 107 [(1, .ref (b + v1))] [.int 0, .ref (b + v1), .int 0, .ref (b + v1)] (by decide +kernel) rfl rfl ?_
  refine jcVN_I C 110 (rest := [.int 0, .ref (b + v1)]) (ok_X5_termOf t_v1 h) (by decide +kernel : decode cX1_nextDay 107 = .ok (.invokevirtual 87, 3)) rfl wn_831 wd_418 wp_11 wd_2 wd_419 ⟨rfl, rfl⟩ hd_X5_termOf ⟨Nat.le_of_ble_eq_true rfl, Nat.le_of_ble_eq_true rfl⟩ t_v1 kX5 (by decide) rfl rfl rfl (Nat.le_of_ble_eq_true rfl) ⟨Nat.zero_le _, Nat.zero_le _⟩ (fun r2 S1 h => ?_)
  refine jB C [(.iconst 1, 1, 1), (.iadd, 1, 0)] 112 [(1, .ref (b + v1))] [.int (r2 + 1), .int 0, .ref (b + v1)] (by decide +kernel) rfl rfl ?_
  refine jcVN_V C 115 (rest := []) (ok_X5_setTerm t_v1 h) (by decide +kernel : decode cX1_nextDay 112 = .ok (.invokevirtual 100, 3)) rfl wn_861 wd_543 wp_27 wd_2 wd_544 ⟨rfl, rfl⟩ hd_X5_setTerm ⟨Nat.le_of_ble_eq_true rfl, Nat.le_of_ble_eq_true rfl⟩ t_v1 kX5 (by decide) rfl rfl rfl (Nat.le_of_ble_eq_true rfl) ⟨Nat.zero_le _, Nat.zero_le _⟩ (fun S3 h => ?_)
  refine jB C [(.aload_n 1, 1, 0), (.iconst 0, 1, 0)] 117 [(1, .ref (b + v1))] [.int 0, .ref (b + v1)] (by decide +kernel) rfl rfl ?_
  refine jcVN_I C 120 (rest := []) (ok_X5_termOf t_v1 h) (by decide +kernel : decode cX1_nextDay 117 = .ok (.invokevirtual 87, 3)) rfl wn_831 wd_418 wp_11 wd_2 wd_419 ⟨rfl, rfl⟩ hd_X5_termOf ⟨Nat.le_of_ble_eq_true rfl, Nat.le_of_ble_eq_true rfl⟩ t_v1 kX5 (by decide) rfl rfl rfl (Nat.le_of_ble_eq_true rfl) ⟨Nat.zero_le _, Nat.zero_le _⟩ (fun r5 S4 h => ?_)
  exact jRetI C (by decide +kernel : decode cX1_nextDay 120 = .ok (.ireturn, 1)) (Nat.le_refl _) (Nat.le_refl _) ⟨rfl, h⟩
set_option maxHeartbeats 4000000 in
set_option maxRecDepth 100000 in
theorem j_X1_nextDay_49_n {p : Program} {l : Launch} {e : Env} {s : State} {m : MethodId} {args : Array Value} {below : List Frame} {meth : Method} {c : Code} {b : Nat} {D : va_G} {cy : Nat → ClassId} {G : Gm} {v0 : Nat} {v1 : Nat} {Q : Int32 → St → Prop} (C : CX p s m args meth c b D cy cX1_nextDay RX1 4 (some .int)) (hE : s.heap.size + 0 ≤ b + G.2.2) (t_v0 : ok G 1 v0) (t_v1 : ok G 4 v1) : ∀ k (v2 : Int32) S, f_X1_nextDay_49_n G v0 v1 Q k v2 S → J p l e rm_X1_nextDay s m args below meth c b D cy 4 (zI b D cy below args s G Q) 0 0 G S 49 [(0, .ref (b + v0)), (1, .ref (b + v1)), (2, .int v2)] [] := by
  intro k
  induction k with
  | zero => intro v2 S h; exact h.elim
  | succ k ih =>
    intro v2 S h
    unfold f_X1_nextDay_49_n at h
    refine jB C [(.iload_n 2, 1, 0), (.aload_n 1, 1, 0)] 51 [(0, .ref (b + v0)), (1, .ref (b + v1)), (2, .int v2)] [.ref (b + v1), .int v2] (by decide +kernel) rfl rfl ?_
    refine jGetIN C 54 (by decide +kernel : decode cX1_nextDay 51 = .ok (.getfield 93, 3)) rfl t_v1 kX5 0 (by decide) rfl rfl (by decide) wn_38 ?_
    refine jB C [(.iconst 4, 1, 4), (.imul, 1, 0)] 56 [(0, .ref (b + v0)), (1, .ref (b + v1)), (2, .int v2)] [.int ((S.1 v1 0) * 4), .int v2] (by decide +kernel) rfl rfl ?_
    refine jIcmp_ge C 59 103 (by decide +kernel : decode cX1_nextDay 56 = .ok (.if_icmp .ge 47, 3)) rfl rfl (fun c1 => ?_) (fun c1 => ?_)
    · have h := it1 h c1
      refine jSub [1] rfl ?_
      exact j_X1_nextDay_103 C hE t_v1 h
    · have h := it2 h c1
      refine jB C [(.iload_n 2, 1, 0), (.aload_n 0, 1, 0)] 61 [(0, .ref (b + v0)), (1, .ref (b + v1)), (2, .int v2)] [.ref (b + v0), .int v2] (by decide +kernel) rfl rfl ?_
      obtain ⟨a2, e_a2, h⟩ := h
      refine jGetR C 64 (by decide +kernel : decode cX1_nextDay 61 = .ok (.getfield 18, 3)) rfl t_v0 kX1 1 (by decide) rfl rfl (by decide) wd_133 e_a2 rfl (fun t_a2 => ?_)
      refine jAlen11 C 65 (by decide +kernel : decode cX1_nextDay 64 = .ok (.arraylength, 1)) rfl t_a2 ?_
      refine jIcmp_ge C 68 103 (by decide +kernel : decode cX1_nextDay 65 = .ok (.if_icmp .ge 38, 3)) rfl rfl (fun c3 => ?_) (fun c3 => ?_)
      · have h := it1 h c3
        refine jSub [1] rfl ?_
        exact j_X1_nextDay_103 C hE t_v1 h
      · have h := it2 h c3
        refine jB C [(.aload_n 1, 1, 0), (.iload_n 2, 1, 0), (.iconst 4, 1, 4)] 71 [(0, .ref (b + v0)), (1, .ref (b + v1)), (2, .int v2)] [.int 4, .int v2, .ref (b + v1)] (by decide +kernel) rfl rfl ?_
        refine jIdiv C 72 (by decide +kernel : decode cX1_nextDay 71 = .ok (.idiv, 1)) rfl (by decide) ?_
        refine jB C [(.iload_n 2, 1, 0), (.iconst 4, 1, 4)] 74 [(0, .ref (b + v0)), (1, .ref (b + v1)), (2, .int v2)] [.int 4, .int v2, .int (v2 / 4), .ref (b + v1)] (by decide +kernel) rfl rfl ?_
        refine jIrem C 75 (by decide +kernel : decode cX1_nextDay 74 = .ok (.irem, 1)) rfl (by decide) ?_
        refine jcVN_I C 78 (rest := []) (ok_X5_sinOf t_v1 h) (by decide +kernel : decode cX1_nextDay 75 = .ok (.invokevirtual 32, 3)) rfl wn_828 wd_398 wp_8 wd_2 wd_399 ⟨rfl, rfl⟩ hd_X5_sinOf ⟨Nat.le_of_ble_eq_true rfl, Nat.le_of_ble_eq_true rfl⟩ t_v1 kX5 (by decide) rfl rfl rfl (Nat.le_of_ble_eq_true rfl) ⟨Nat.zero_le _, Nat.zero_le _⟩ (fun r5 S4 h => ?_)
        refine jB C [(.istore_n 3, 1, 0), (.aload_n 1, 1, 0), (.iload_n 2, 1, 0), (.iconst 4, 1, 4)] 82 [(3, .int r5), (0, .ref (b + v0)), (1, .ref (b + v1)), (2, .int v2)] [.int 4, .int v2, .ref (b + v1)] (by decide +kernel) rfl rfl ?_
        refine jIdiv C 83 (by decide +kernel : decode cX1_nextDay 82 = .ok (.idiv, 1)) rfl (by decide) ?_
        refine jB C [(.iload_n 2, 1, 0), (.iconst 4, 1, 4)] 85 [(3, .int r5), (0, .ref (b + v0)), (1, .ref (b + v1)), (2, .int v2)] [.int 4, .int v2, .int (v2 / 4), .ref (b + v1)] (by decide +kernel) rfl rfl ?_
        refine jIrem C 86 (by decide +kernel : decode cX1_nextDay 85 = .ok (.irem, 1)) rfl (by decide) ?_
        refine jB C [(.iload_n 3, 1, 0), (.aload_n 0, 1, 0)] 88 [(3, .int r5), (0, .ref (b + v0)), (1, .ref (b + v1)), (2, .int v2)] [.ref (b + v0), .int r5, .int (v2 - v2 / 4 * 4), .int (v2 / 4), .ref (b + v1)] (by decide +kernel) rfl rfl ?_
        obtain ⟨a6, e_a6, h⟩ := h
        refine jGetR C 91 (by decide +kernel : decode cX1_nextDay 88 = .ok (.getfield 18, 3)) rfl t_v0 kX1 1 (by decide) rfl rfl (by decide) wd_133 e_a6 rfl (fun t_a6 => ?_)
        refine jB C [(.iload_n 2, 1, 0)] 92 [(3, .int r5), (0, .ref (b + v0)), (1, .ref (b + v1)), (2, .int v2)] [.int v2, .ref (b + a6), .int r5, .int (v2 - v2 / 4 * 4), .int (v2 / 4), .ref (b + v1)] (by decide +kernel) rfl rfl ?_
        obtain ⟨y7, h⟩ := h
        refine jIald C 93 (by decide +kernel : decode cX1_nextDay 92 = .ok (.iaload, 1)) rfl t_a6 y7 ?_
        refine jB C [(.iadd, 1, 0)] 94 [(3, .int r5), (0, .ref (b + v0)), (1, .ref (b + v1)), (2, .int v2)] [.int (r5 + (S4.1 a6 v2.toNatClampNeg)), .int (v2 - v2 / 4 * 4), .int (v2 / 4), .ref (b + v1)] (by decide +kernel) rfl rfl ?_
        refine jcVN_V C 97 (rest := []) (ok_X5_setSin t_v1 h) (by decide +kernel : decode cX1_nextDay 94 = .ok (.invokevirtual 38, 3)) rfl wn_841 wd_369 wp_3 wd_2 wd_370 ⟨rfl, rfl⟩ hd_X5_setSin ⟨Nat.le_of_ble_eq_true rfl, Nat.le_of_ble_eq_true rfl⟩ t_v1 kX5 (by decide) rfl rfl rfl (Nat.le_of_ble_eq_true rfl) ⟨Nat.zero_le _, Nat.zero_le _⟩ (fun S8 h => ?_)
        refine jB C [(.iinc 2 1, 3, 1)] 100 [(2, .int (v2 + 1)), (3, .int r5), (0, .ref (b + v0)), (1, .ref (b + v1))] [] (by decide +kernel) rfl rfl ?_
        refine jGoto C 49 (by decide +kernel : decode cX1_nextDay 100 = .ok (.goto (-51), 3)) rfl ?_
        refine jSub [2, 3, 0] rfl ?_
        exact ih (v2 + 1) S8 h
theorem j_X1_nextDay_49 {p : Program} {l : Launch} {e : Env} {s : State} {m : MethodId} {args : Array Value} {below : List Frame} {meth : Method} {c : Code} {b : Nat} {D : va_G} {cy : Nat → ClassId} {G : Gm} {v0 : Nat} {v1 : Nat} {v2 : Int32} {S : St} {Q : Int32 → St → Prop} (C : CX p s m args meth c b D cy cX1_nextDay RX1 4 (some .int)) (hE : s.heap.size + 0 ≤ b + G.2.2) (t_v0 : ok G 1 v0) (t_v1 : ok G 4 v1) (h : f_X1_nextDay_49 G v0 v1 Q v2 S) : J p l e rm_X1_nextDay s m args below meth c b D cy 4 (zI b D cy below args s G Q) 0 0 G S 49 [(0, .ref (b + v0)), (1, .ref (b + v1)), (2, .int v2)] [] := by
  obtain ⟨k, h⟩ := h
  exact j_X1_nextDay_49_n C hE t_v0 t_v1 k v2 S h
set_option maxHeartbeats 4000000 in
set_option maxRecDepth 100000 in
theorem j_X1_nextDay_2_n {p : Program} {l : Launch} {e : Env} {s : State} {m : MethodId} {args : Array Value} {below : List Frame} {meth : Method} {c : Code} {b : Nat} {D : va_G} {cy : Nat → ClassId} {G : Gm} {v0 : Nat} {v1 : Nat} {Q : Int32 → St → Prop} (C : CX p s m args meth c b D cy cX1_nextDay RX1 4 (some .int)) (hE : s.heap.size + 0 ≤ b + G.2.2) (t_v0 : ok G 1 v0) (t_v1 : ok G 4 v1) : ∀ k (v2 : Int32) S, f_X1_nextDay_2_n G v0 v1 Q k v2 S → J p l e rm_X1_nextDay s m args below meth c b D cy 4 (zI b D cy below args s G Q) 0 0 G S 2 [(0, .ref (b + v0)), (1, .ref (b + v1)), (2, .int v2)] [] := by
  intro k
  induction k with
  | zero => intro v2 S h; exact h.elim
  | succ k ih =>
    intro v2 S h
    unfold f_X1_nextDay_2_n at h
    refine jB C [(.iload_n 2, 1, 0), (.aload_n 1, 1, 0)] 4 [(0, .ref (b + v0)), (1, .ref (b + v1)), (2, .int v2)] [.ref (b + v1), .int v2] (by decide +kernel) rfl rfl ?_
    refine jGetIN C 7 (by decide +kernel : decode cX1_nextDay 4 = .ok (.getfield 93, 3)) rfl t_v1 kX5 0 (by decide) rfl rfl (by decide) wn_38 ?_
    refine jB C [(.iconst 4, 1, 4), (.imul, 1, 0)] 9 [(0, .ref (b + v0)), (1, .ref (b + v1)), (2, .int v2)] [.int ((S.1 v1 0) * 4), .int v2] (by decide +kernel) rfl rfl ?_
    refine jIcmp_ge C 12 47 (by decide +kernel : decode cX1_nextDay 9 = .ok (.if_icmp .ge 38, 3)) rfl rfl (fun c1 => ?_) (fun c1 => ?_)
    · have h := it1 h c1
      refine jB C [(.iconst 0, 1, 0), (.istore_n 2, 1, 0)] 49 [(2, .int 0), (0, .ref (b + v0)), (1, .ref (b + v1))] [] (by decide +kernel) rfl rfl ?_
      refine jSub [1, 2, 0] rfl ?_
      exact j_X1_nextDay_49 C hE t_v0 t_v1 h
    · have h := it2 h c1
      refine jB C [(.iload_n 2, 1, 0), (.aload_n 0, 1, 0)] 14 [(0, .ref (b + v0)), (1, .ref (b + v1)), (2, .int v2)] [.ref (b + v0), .int v2] (by decide +kernel) rfl rfl ?_
      obtain ⟨a2, e_a2, h⟩ := h
      refine jGetR C 17 (by decide +kernel : decode cX1_nextDay 14 = .ok (.getfield 18, 3)) rfl t_v0 kX1 1 (by decide) rfl rfl (by decide) wd_133 e_a2 rfl (fun t_a2 => ?_)
      refine jAlen11 C 18 (by decide +kernel : decode cX1_nextDay 17 = .ok (.arraylength, 1)) rfl t_a2 ?_
      refine jIcmp_ge C 21 47 (by decide +kernel : decode cX1_nextDay 18 = .ok (.if_icmp .ge 29, 3)) rfl rfl (fun c3 => ?_) (fun c3 => ?_)
      · have h := it1 h c3
        refine jB C [(.iconst 0, 1, 0), (.istore_n 2, 1, 0)] 49 [(2, .int 0), (0, .ref (b + v0)), (1, .ref (b + v1))] [] (by decide +kernel) rfl rfl ?_
        refine jSub [1, 2, 0] rfl ?_
        exact j_X1_nextDay_49 C hE t_v0 t_v1 h
      · have h := it2 h c3
        refine jB C [(.aload_n 0, 1, 0)] 22 [(0, .ref (b + v0)), (1, .ref (b + v1)), (2, .int v2)] [.ref (b + v0)] (by decide +kernel) rfl rfl ?_
        obtain ⟨a4, e_a4, h⟩ := h
        refine jGetR C 25 (by decide +kernel : decode cX1_nextDay 22 = .ok (.getfield 18, 3)) rfl t_v0 kX1 1 (by decide) rfl rfl (by decide) wd_133 e_a4 rfl (fun t_a4 => ?_)
        refine jB C [(.iload_n 2, 1, 0), (.aload_n 0, 1, 0)] 27 [(0, .ref (b + v0)), (1, .ref (b + v1)), (2, .int v2)] [.ref (b + v0), .int v2, .ref (b + a4)] (by decide +kernel) rfl rfl ?_
        obtain ⟨a5, e_a5, h⟩ := h
        refine jGetR C 30 (by decide +kernel : decode cX1_nextDay 27 = .ok (.getfield 12, 3)) rfl t_v0 kX1 0 (by decide) rfl rfl (by decide) wd_132 e_a5 rfl (fun t_a5 => ?_)
        refine jB C [(.aload_n 1, 1, 0), (.iload_n 2, 1, 0), (.iconst 4, 1, 4)] 33 [(0, .ref (b + v0)), (1, .ref (b + v1)), (2, .int v2)] [.int 4, .int v2, .ref (b + v1), .ref (b + a5), .int v2, .ref (b + a4)] (by decide +kernel) rfl rfl ?_
        refine jIdiv C 34 (by decide +kernel : decode cX1_nextDay 33 = .ok (.idiv, 1)) rfl (by decide) ?_
        refine jB C [(.iload_n 2, 1, 0), (.iconst 4, 1, 4)] 36 [(0, .ref (b + v0)), (1, .ref (b + v1)), (2, .int v2)] [.int 4, .int v2, .int (v2 / 4), .ref (b + v1), .ref (b + a5), .int v2, .ref (b + a4)] (by decide +kernel) rfl rfl ?_
        refine jIrem C 37 (by decide +kernel : decode cX1_nextDay 36 = .ok (.irem, 1)) rfl (by decide) ?_
        refine jcVN_I C 40 (rest := [.int v2, .ref (b + a4)]) (ok_X2_growth t_a5 t_v1 h) (by decide +kernel : decode cX1_nextDay 37 = .ok (.invokevirtual 97, 3)) rfl wn_860 wd_511 wp_26 wd_4 wd_512 ⟨rfl, rfl⟩ hd_X2_growth ⟨Nat.le_of_ble_eq_true rfl, Nat.le_of_ble_eq_true rfl⟩ t_a5 kX2 (by decide) rfl rfl rfl (Nat.le_of_ble_eq_true rfl) ⟨Nat.zero_le _, Nat.zero_le _⟩ (fun r7 S6 h => ?_)
        obtain ⟨y8, h⟩ := h
        refine jIast C 41 (by decide +kernel : decode cX1_nextDay 40 = .ok (.iastore, 1)) rfl hE t_a4 y8 ?_
        refine jTopS (fun S9 e_S9 => ?_)
        have h := h S9 e_S9
        refine jB C [(.iinc 2 1, 3, 1)] 44 [(2, .int (v2 + 1)), (0, .ref (b + v0)), (1, .ref (b + v1))] [] (by decide +kernel) rfl rfl ?_
        refine jGoto C 2 (by decide +kernel : decode cX1_nextDay 44 = .ok (.goto (-42), 3)) rfl ?_
        refine jSub [1, 2, 0] rfl ?_
        exact ih (v2 + 1) S9 h
theorem j_X1_nextDay_2 {p : Program} {l : Launch} {e : Env} {s : State} {m : MethodId} {args : Array Value} {below : List Frame} {meth : Method} {c : Code} {b : Nat} {D : va_G} {cy : Nat → ClassId} {G : Gm} {v0 : Nat} {v1 : Nat} {v2 : Int32} {S : St} {Q : Int32 → St → Prop} (C : CX p s m args meth c b D cy cX1_nextDay RX1 4 (some .int)) (hE : s.heap.size + 0 ≤ b + G.2.2) (t_v0 : ok G 1 v0) (t_v1 : ok G 4 v1) (h : f_X1_nextDay_2 G v0 v1 Q v2 S) : J p l e rm_X1_nextDay s m args below meth c b D cy 4 (zI b D cy below args s G Q) 0 0 G S 2 [(0, .ref (b + v0)), (1, .ref (b + v1)), (2, .int v2)] [] := by
  obtain ⟨k, h⟩ := h
  exact j_X1_nextDay_2_n C hE t_v0 t_v1 k v2 S h
set_option maxHeartbeats 4000000 in
set_option maxRecDepth 100000 in
theorem j_X1_nextDay {p : Program} {l : Launch} {e : Env} {s : State} {m : MethodId} {args : Array Value} {below : List Frame} {meth : Method} {c : Code} {b : Nat} {D : va_G} {cy : Nat → ClassId} {G : Gm} {v0 : Nat} {v1 : Nat} {S : St} {Q : Int32 → St → Prop} (C : CX p s m args meth c b D cy cX1_nextDay RX1 4 (some .int)) (hE : s.heap.size + 0 ≤ b + G.2.2) (t_v0 : ok G 1 v0) (t_v1 : ok G 4 v1) (h : f_X1_nextDay G v0 v1 Q S) : J p l e rm_X1_nextDay s m args below meth c b D cy 4 (zI b D cy below args s G Q) 0 0 G S 0 [(0, .ref (b + v0)), (1, .ref (b + v1))] [] := by
  unfold f_X1_nextDay at h
  refine jB C [(.iconst 0, 1, 0), (.istore_n 2, 1, 0)] 2 [(2, .int 0), (0, .ref (b + v0)), (1, .ref (b + v1))] [] (by decide +kernel) rfl rfl ?_
  refine jSub [1, 2, 0] rfl ?_
  exact j_X1_nextDay_2 C hE t_v0 t_v1 h
theorem ok_X1_nextDay {G : Gm} {v0 : Nat} {v1 : Nat} {S : St} {Q : Int32 → St → Prop}  (t_v0 : ok G 1 v0) (t_v1 : ok G 4 v1) (h : f_X1_nextDay G v0 v1 Q S) : MT yX1_nextDay cX1_nextDay 4 (some .int) rm_X1_nextDay 0 0 (fun b => [.ref (b + v0), .ref (b + v1)]) G S (QI (fun r G1 S1 => G1 = G ∧ Q r S1)) := MT.ofJ (by decide +kernel) (fun b => [(0, .ref (b + v0)), (1, .ref (b + v1))]) (fun b => rfl) (fun b => Nat.le_of_ble_eq_true rfl) (fun l b D cy p e s m below meth c C hE hn => j_X1_nextDay C hE t_v0 t_v1 h)
theorem hd_X1_nextDay : yX1_nextDay.cls ≠ "java/lang/invoke/MethodHandle" ∧ yX1_nextDay.cls ≠ "java/lang/invoke/VarHandle" ∧ (parseMethodDescriptor yX1_nextDay.desc).map (fun d => d.parameters.length) = some 1 := by decide +kernel
abbrev rm_X1_act : Room := { frames := 5, cells := 0, slots := 0, locals := 133 }
set_option maxHeartbeats 4000000 in
set_option maxRecDepth 100000 in
theorem j_X1_act {p : Program} {l : Launch} {e : Env} {s : State} {m : MethodId} {args : Array Value} {below : List Frame} {meth : Method} {c : Code} {b : Nat} {D : va_G} {cy : Nat → ClassId} {G : Gm} {v0 : Nat} {v1 : Nat} {v2 : Nat} {v3 : Int32} {v4 : Int32} {v5 : Int32} {v6 : Int32} {S : St} {Q : Int32 → St → Prop} (C : CX p s m args meth c b D cy cX1_act RX1 8 (some .int)) (hE : s.heap.size + 0 ≤ b + G.2.2) (t_v0 : ok G 1 v0) (t_v1 : ok G 4 v1) (t_v2 : ok G 8 v2) (h : f_X1_act G v0 v1 v2 v3 v4 v5 v6 Q S) : J p l e rm_X1_act s m args below meth c b D cy 8 (zI b D cy below args s G Q) 0 0 G S 0 [(0, .ref (b + v0)), (1, .ref (b + v1)), (2, .ref (b + v2)), (3, .int v3), (4, .int v4), (5, .int v5), (6, .int v6)] [] := by
  unfold f_X1_act at h
  refine jB C [(.aload_n 0, 1, 0), (.aload_n 1, 1, 0), (.iload_n 3, 1, 0), (.iload 4, 2, 0), (.iload 5, 2, 0), (.iload 6, 2, 0)] 9 [(0, .ref (b + v0)), (1, .ref (b + v1)), (2, .ref (b + v2)), (3, .int v3), (4, .int v4), (5, .int v5), (6, .int v6)] [.int v6, .int v5, .int v4, .int v3, .ref (b + v1), .ref (b + v0)] (by decide +kernel) rfl rfl ?_
  refine jcV_I C 12 (rest := []) (ok_X1_refusalOf t_v0 t_v1 h) (by decide +kernel : decode cX1_act 9 = .ok (.invokevirtual 22, 3)) rfl wd_819 wd_821 wp_70 wd_6 wd_822 ⟨rfl, rfl⟩ hd_X1_refusalOf ⟨Nat.le_of_ble_eq_true rfl, Nat.le_of_ble_eq_true rfl⟩ t_v0 kX1 (by decide) rfl rfl rfl (Nat.le_of_ble_eq_true rfl) ⟨Nat.zero_le _, Nat.zero_le _⟩ (fun r2 S1 h => ?_)
  refine jB C [(.istore 7, 2, 0), (.iload 7, 2, 0)] 16 [(7, .int r2), (0, .ref (b + v0)), (1, .ref (b + v1)), (2, .ref (b + v2)), (3, .int v3), (4, .int v4), (5, .int v5), (6, .int v6)] [.int r2] (by decide +kernel) rfl rfl ?_
  refine jIf_eq C 19 22 (by decide +kernel : decode cX1_act 16 = .ok (.ifCond .eq 6, 3)) rfl rfl (fun c3 => ?_) (fun c3 => ?_)
  · have h := it1 h c3
    refine jB C [(.aload_n 2, 1, 0), (.aload_n 1, 1, 0), (.iload_n 3, 1, 0)] 25 [(7, .int r2), (0, .ref (b + v0)), (1, .ref (b + v1)), (2, .ref (b + v2)), (3, .int v3), (4, .int v4), (5, .int v5), (6, .int v6)] [.int v3, .ref (b + v1), .ref (b + v2)] (by decide +kernel) rfl rfl ?_
    refine jcVN_V C 28 (rest := []) (ok_X9_remember t_v2 t_v1 h) (by decide +kernel : decode cX1_act 25 = .ok (.invokevirtual 26, 3)) rfl wn_832 wd_834 wp_71 wd_3 wd_835 ⟨rfl, rfl⟩ hd_X9_remember ⟨Nat.le_of_ble_eq_true rfl, Nat.le_of_ble_eq_true rfl⟩ t_v2 kX9 (by decide) rfl rfl rfl (Nat.le_of_ble_eq_true rfl) ⟨Nat.zero_le _, Nat.zero_le _⟩ (fun S4 h => ?_)
    refine jB C [(.iload_n 3, 1, 0)] 29 [(7, .int r2), (0, .ref (b + v0)), (1, .ref (b + v1)), (2, .ref (b + v2)), (3, .int v3), (4, .int v4), (5, .int v5), (6, .int v6)] [.int v3] (by decide +kernel) rfl rfl ?_
    by_cases c27_0 : v3 = 0
    · have h := it1 h c27_0
      refine jTabIn C 60 0 (by decide +kernel : decode cX1_act 29 = .ok (.tableswitch 105 0 3 #[31, 59, 89, 98], 31)) c27_0 ⟨rfl, rfl, rfl, rfl⟩ ?_
      refine jB C [(.aload_n 1, 1, 0), (.iload 4, 2, 0), (.iload 5, 2, 0), (.aload_n 1, 1, 0), (.iload 4, 2, 0), (.iload 5, 2, 0)] 70 [(7, .int r2), (0, .ref (b + v0)), (1, .ref (b + v1)), (2, .ref (b + v2)), (3, .int v3), (4, .int v4), (5, .int v5), (6, .int v6)] [.int v5, .int v4, .ref (b + v1), .int v5, .int v4, .ref (b + v1)] (by decide +kernel) rfl rfl ?_
      refine jcVN_I C 73 (rest := [.int v5, .int v4, .ref (b + v1)]) (ok_X5_sinOf t_v1 h) (by decide +kernel : decode cX1_act 70 = .ok (.invokevirtual 32, 3)) rfl wn_828 wd_398 wp_8 wd_2 wd_399 ⟨rfl, rfl⟩ hd_X5_sinOf ⟨Nat.le_of_ble_eq_true rfl, Nat.le_of_ble_eq_true rfl⟩ t_v1 kX5 (by decide) rfl rfl rfl (Nat.le_of_ble_eq_true rfl) ⟨Nat.zero_le _, Nat.zero_le _⟩ (fun r6 S5 h => ?_)
      refine jB C [(.iload 6, 2, 0), (.iadd, 1, 0)] 76 [(7, .int r2), (0, .ref (b + v0)), (1, .ref (b + v1)), (2, .ref (b + v2)), (3, .int v3), (4, .int v4), (5, .int v5), (6, .int v6)] [.int (r6 + v6), .int v5, .int v4, .ref (b + v1)] (by decide +kernel) rfl rfl ?_
      refine jcVN_V C 79 (rest := []) (ok_X5_setSin t_v1 h) (by decide +kernel : decode cX1_act 76 = .ok (.invokevirtual 38, 3)) rfl wn_841 wd_369 wp_3 wd_2 wd_370 ⟨rfl, rfl⟩ hd_X5_setSin ⟨Nat.le_of_ble_eq_true rfl, Nat.le_of_ble_eq_true rfl⟩ t_v1 kX5 (by decide) rfl rfl rfl (Nat.le_of_ble_eq_true rfl) ⟨Nat.zero_le _, Nat.zero_le _⟩ (fun S7 h => ?_)
      refine jB C [(.aload_n 1, 1, 0), (.iload 4, 2, 0), (.iload 5, 2, 0)] 84 [(7, .int r2), (0, .ref (b + v0)), (1, .ref (b + v1)), (2, .ref (b + v2)), (3, .int v3), (4, .int v4), (5, .int v5), (6, .int v6)] [.int v5, .int v4, .ref (b + v1)] (by decide +kernel) rfl rfl ?_
      refine jcVN_I C 87 (rest := []) (ok_X5_sinOf t_v1 h) (by decide +kernel : decode cX1_act 84 = .ok (.invokevirtual 32, 3)) rfl wn_828 wd_398 wp_8 wd_2 wd_399 ⟨rfl, rfl⟩ hd_X5_sinOf ⟨Nat.le_of_ble_eq_true rfl, Nat.le_of_ble_eq_true rfl⟩ t_v1 kX5 (by decide) rfl rfl rfl (Nat.le_of_ble_eq_true rfl) ⟨Nat.zero_le _, Nat.zero_le _⟩ (fun r9 S8 h => ?_)
      exact jRetI C (by decide +kernel : decode cX1_act 87 = .ok (.ireturn, 1)) (Nat.le_refl _) (Nat.le_refl _) ⟨rfl, h⟩
    · have h := it2 h c27_0
      by_cases c27_1 : v3 = 1
      · have h := it1 h c27_1
        refine jTabIn C 88 1 (by decide +kernel : decode cX1_act 29 = .ok (.tableswitch 105 0 3 #[31, 59, 89, 98], 31)) c27_1 ⟨rfl, rfl, rfl, rfl⟩ ?_
        refine jB C [(.aload_n 1, 1, 0), (.iload 4, 2, 0), (.aload_n 0, 1, 0)] 92 [(7, .int r2), (0, .ref (b + v0)), (1, .ref (b + v1)), (2, .ref (b + v2)), (3, .int v3), (4, .int v4), (5, .int v5), (6, .int v6)] [.ref (b + v0), .int v4, .ref (b + v1)] (by decide +kernel) rfl rfl ?_
        obtain ⟨a10, e_a10, h⟩ := h
        refine jGetR C 95 (by decide +kernel : decode cX1_act 92 = .ok (.getfield 12, 3)) rfl t_v0 kX1 0 (by decide) rfl rfl (by decide) wd_132 e_a10 rfl (fun t_a10 => ?_)
        refine jB C [(.aload_n 1, 1, 0), (.aload_n 1, 1, 0)] 97 [(7, .int r2), (0, .ref (b + v0)), (1, .ref (b + v1)), (2, .ref (b + v2)), (3, .int v3), (4, .int v4), (5, .int v5), (6, .int v6)] [.ref (b + v1), .ref (b + v1), .ref (b + a10), .int v4, .ref (b + v1)] (by decide +kernel) rfl rfl ?_
        refine jcVN_O C 100 (rest := [.ref (b + v1), .ref (b + a10), .int v4, .ref (b + v1)]) (ok_X5_lawInForce t_v1 h) (by decide +kernel : decode cX1_act 97 = .ok (.invokevirtual 42, 3)) rfl wn_842 wd_447 wp_15 wd_2 wd_448 ⟨rfl, rfl⟩ hd_X5_lawInForce ⟨Nat.le_of_ble_eq_true rfl, Nat.le_of_ble_eq_true rfl⟩ t_v1 kX5 (by decide) rfl rfl rfl (Nat.le_of_ble_eq_true rfl) ⟨Nat.zero_le _, Nat.zero_le _⟩ (fun r12 S11 h => ?_)
        obtain ⟨t13, h⟩ := h
        refine jB C [(.iload 4, 2, 0)] 102 [(7, .int r2), (0, .ref (b + v0)), (1, .ref (b + v1)), (2, .ref (b + v2)), (3, .int v3), (4, .int v4), (5, .int v5), (6, .int v6)] [.int v4, rv b r12, .ref (b + v1), .ref (b + a10), .int v4, .ref (b + v1)] (by decide +kernel) rfl rfl ?_
        refine jcVN_I C 105 (rest := [.int v4, .ref (b + v1)]) (ok_X2_glassBy t_a10 t_v1 t13 h) (by decide +kernel : decode cX1_act 102 = .ok (.invokevirtual 46, 3)) rfl wn_843 wd_845 wp_72 wd_4 wd_846 ⟨rfl, rfl⟩ hd_X2_glassBy ⟨Nat.le_of_ble_eq_true rfl, Nat.le_of_ble_eq_true rfl⟩ t_a10 kX2 (by decide) rfl rfl rfl (Nat.le_of_ble_eq_true rfl) ⟨Nat.zero_le _, Nat.zero_le _⟩ (fun r15 S14 h => ?_)
        refine jcVN_V C 108 (rest := []) (ok_X5_setGlass t_v1 h) (by decide +kernel : decode cX1_act 105 = .ok (.invokevirtual 50, 3)) rfl wn_848 wd_381 wp_5 wd_2 wd_382 ⟨rfl, rfl⟩ hd_X5_setGlass ⟨Nat.le_of_ble_eq_true rfl, Nat.le_of_ble_eq_true rfl⟩ t_v1 kX5 (by decide) rfl rfl rfl (Nat.le_of_ble_eq_true rfl) ⟨Nat.zero_le _, Nat.zero_le _⟩ (fun S16 h => ?_)
        refine jB C [(.aload_n 1, 1, 0), (.iload 4, 2, 0)] 111 [(7, .int r2), (0, .ref (b + v0)), (1, .ref (b + v1)), (2, .ref (b + v2)), (3, .int v3), (4, .int v4), (5, .int v5), (6, .int v6)] [.int v4, .ref (b + v1)] (by decide +kernel) rfl rfl ?_
        refine jcVN_I C 114 (rest := []) (ok_X5_glassOf t_v1 h) (by decide +kernel : decode cX1_act 111 = .ok (.invokevirtual 54, 3)) rfl wn_830 wd_402 wp_9 wd_2 wd_403 ⟨rfl, rfl⟩ hd_X5_glassOf ⟨Nat.le_of_ble_eq_true rfl, Nat.le_of_ble_eq_true rfl⟩ t_v1 kX5 (by decide) rfl rfl rfl (Nat.le_of_ble_eq_true rfl) ⟨Nat.zero_le _, Nat.zero_le _⟩ (fun r18 S17 h => ?_)
        refine jcSN_I C 117 (rest := []) (ok_X3_lensesIn h) (by decide +kernel : decode cX1_act 114 = .ok (.invokestatic 58, 3)) rfl wn_849 wd_408 wd_13 wd_409 ⟨rfl, rfl⟩ hd_X3_lensesIn ⟨Nat.le_of_ble_eq_true rfl, Nat.le_of_ble_eq_true rfl⟩ rfl rfl (Nat.le_of_ble_eq_true rfl) ⟨Nat.zero_le _, Nat.zero_le _⟩ (fun r20 S19 h => ?_)
        exact jRetI C (by decide +kernel : decode cX1_act 117 = .ok (.ireturn, 1)) (Nat.le_refl _) (Nat.le_refl _) ⟨rfl, h⟩
      · have h := it2 h c27_1
        by_cases c27_2 : v3 = 2
        · have h := it1 h c27_2
          refine jTabIn C 118 2 (by decide +kernel : decode cX1_act 29 = .ok (.tableswitch 105 0 3 #[31, 59, 89, 98], 31)) c27_2 ⟨rfl, rfl, rfl, rfl⟩ ?_
          refine jB C [(.aload_n 1, 1, 0), (.iload 4, 2, 0), (.iload 5, 2, 0)] 123 [(7, .int r2), (0, .ref (b + v0)), (1, .ref (b + v1)), (2, .ref (b + v2)), (3, .int v3), (4, .int v4), (5, .int v5), (6, .int v6)] [.int v5, .int v4, .ref (b + v1)] (by decide +kernel) rfl rfl ?_
          refine jcS_I C 126 (rest := []) (ok_X1_exchange t_v1 h) (by decide +kernel : decode cX1_act 123 = .ok (.invokestatic 63, 3)) rfl wd_850 wd_851 wd_6 wd_852 ⟨rfl, rfl⟩ hd_X1_exchange ⟨Nat.le_of_ble_eq_true rfl, Nat.le_of_ble_eq_true rfl⟩ rfl rfl (Nat.le_of_ble_eq_true rfl) ⟨Nat.zero_le _, Nat.zero_le _⟩ (fun r22 S21 h => ?_)
          exact jRetI C (by decide +kernel : decode cX1_act 126 = .ok (.ireturn, 1)) (Nat.le_refl _) (Nat.le_refl _) ⟨rfl, h⟩
        · have h := it2 h c27_2
          by_cases c27_3 : v3 = 3
          · have h := it1 h c27_3
            refine jTabIn C 127 3 (by decide +kernel : decode cX1_act 29 = .ok (.tableswitch 105 0 3 #[31, 59, 89, 98], 31)) c27_3 ⟨rfl, rfl, rfl, rfl⟩ ?_
            refine jB C [(.aload_n 1, 1, 0), (.iload 4, 2, 0)] 130 [(7, .int r2), (0, .ref (b + v0)), (1, .ref (b + v1)), (2, .ref (b + v2)), (3, .int v3), (4, .int v4), (5, .int v5), (6, .int v6)] [.int v4, .ref (b + v1)] (by decide +kernel) rfl rfl ?_
            refine jcS_I C 133 (rest := []) (ok_X1_takeOff t_v1 h) (by decide +kernel : decode cX1_act 130 = .ok (.invokestatic 67, 3)) rfl wd_853 wd_854 wd_6 wd_855 ⟨rfl, rfl⟩ hd_X1_takeOff ⟨Nat.le_of_ble_eq_true rfl, Nat.le_of_ble_eq_true rfl⟩ rfl rfl (Nat.le_of_ble_eq_true rfl) ⟨Nat.zero_le _, Nat.zero_le _⟩ (fun r24 S23 h => ?_)
            exact jRetI C (by decide +kernel : decode cX1_act 133 = .ok (.ireturn, 1)) (Nat.le_refl _) (Nat.le_refl _) ⟨rfl, h⟩
          · have h := it2 h c27_3
            refine jTabOut C 134 (by decide +kernel : decode cX1_act 29 = .ok (.tableswitch 105 0 3 #[31, 59, 89, 98], 31)) rfl (by have := lv_neT c27_0 (a := 0) rfl; have := lv_neT c27_1 (a := 1) rfl; have := lv_neT c27_2 (a := 2) rfl; have := lv_neT c27_3 (a := 3) rfl; omega) ?_
            refine jB C [(.aload_n 0, 1, 0), (.aload_n 1, 1, 0)] 136 [(7, .int r2), (0, .ref (b + v0)), (1, .ref (b + v1)), (2, .ref (b + v2)), (3, .int v3), (4, .int v4), (5, .int v5), (6, .int v6)] [.ref (b + v1), .ref (b + v0)] (by decide +kernel) rfl rfl ?_
            refine jcV_I C 139 (rest := []) (ok_X1_nextDay t_v0 t_v1 h) (by decide +kernel : decode cX1_act 136 = .ok (.invokevirtual 71, 3)) rfl wd_856 wd_858 wp_73 wd_6 wd_859 ⟨rfl, rfl⟩ hd_X1_nextDay ⟨Nat.le_of_ble_eq_true rfl, Nat.le_of_ble_eq_true rfl⟩ t_v0 kX1 (by decide) rfl rfl rfl (Nat.le_of_ble_eq_true rfl) ⟨Nat.zero_le _, Nat.zero_le _⟩ (fun r26 S25 h => ?_)
            exact jRetI C (by decide +kernel : decode cX1_act 139 = .ok (.ireturn, 1)) (Nat.le_refl _) (Nat.le_refl _) ⟨rfl, h⟩
  · have h := it2 h c3
    refine jB C [(.iload 7, 2, 0)] 21 [(7, .int r2), (0, .ref (b + v0)), (1, .ref (b + v1)), (2, .ref (b + v2)), (3, .int v3), (4, .int v4), (5, .int v5), (6, .int v6)] [.int r2] (by decide +kernel) rfl rfl ?_
    exact jRetI C (by decide +kernel : decode cX1_act 21 = .ok (.ireturn, 1)) (Nat.le_refl _) (Nat.le_refl _) ⟨rfl, h⟩
theorem ok_X1_act {G : Gm} {v0 : Nat} {v1 : Nat} {v2 : Nat} {v3 : Int32} {v4 : Int32} {v5 : Int32} {v6 : Int32} {S : St} {Q : Int32 → St → Prop}  (t_v0 : ok G 1 v0) (t_v1 : ok G 4 v1) (t_v2 : ok G 8 v2) (h : f_X1_act G v0 v1 v2 v3 v4 v5 v6 Q S) : MT yX1_act cX1_act 8 (some .int) rm_X1_act 0 0 (fun b => [.ref (b + v0), .ref (b + v1), .ref (b + v2), .int v3, .int v4, .int v5, .int v6]) G S (QI (fun r G1 S1 => G1 = G ∧ Q r S1)) := MT.ofJ (by decide +kernel) (fun b => [(0, .ref (b + v0)), (1, .ref (b + v1)), (2, .ref (b + v2)), (3, .int v3), (4, .int v4), (5, .int v5), (6, .int v6)]) (fun b => rfl) (fun b => Nat.le_of_ble_eq_true rfl) (fun l b D cy p e s m below meth c C hE hn => j_X1_act C hE t_v0 t_v1 t_v2 h)
theorem hd_X1_act : yX1_act.cls ≠ "java/lang/invoke/MethodHandle" ∧ yX1_act.cls ≠ "java/lang/invoke/VarHandle" ∧ (parseMethodDescriptor yX1_act.desc).map (fun d => d.parameters.length) = some 6 := by decide +kernel
abbrev rm_X0_runOnce : Room := { frames := 6, cells := 0, slots := 0, locals := 160 }
set_option maxHeartbeats 4000000 in
set_option maxRecDepth 100000 in
theorem j_X0_runOnce_204 {p : Program} {l : Launch} {e : Env} {s : State} {m : MethodId} {args : Array Value} {below : List Frame} {meth : Method} {c : Code} {b : Nat} {D : va_G} {cy : Nat → ClassId} {G : Gm} {u0 : Int32} {u1 : Nat} {S : St} {Q : Int32 → St → Prop} (C : CX p s m args meth c b D cy cX0_runOnce RX0 13 (some .boolean)) (hE : s.heap.size + 0 ≤ b + G.2.2) (t_u1 : ok G 0 u1) (h : f_X0_runOnce_204 G u0 u1 Q S) : J p l e rm_X0_runOnce s m args below meth c b D cy 13 (zI b D cy below args s G Q) 0 0 G S 204 [] [.int u0, .ref (b + u1)] := by
  unfold f_X0_runOnce_204 at h
  refine jPutI C 207 (by decide +kernel : decode cX0_runOnce 204 = .ok (.putfield 61, 3)) rfl hE t_u1 kX0 7 (by decide) rfl rfl (by decide) rfl wd_163 rfl rfl rfl ?_
  refine jTopS (fun S1 e_S1 => ?_)
  have h := h S1 e_S1
  refine jB C [(.iconst 1, 1, 1)] 208 [] [.int 1] (by decide +kernel) rfl rfl ?_
  exact jRetZ C (by decide +kernel : decode cX0_runOnce 208 = .ok (.ireturn, 1)) (Nat.le_refl _) (Nat.le_refl _) (by decide) ⟨rfl, h⟩
set_option maxHeartbeats 4000000 in
set_option maxRecDepth 100000 in
theorem j_X0_runOnce_127 {p : Program} {l : Launch} {e : Env} {s : State} {m : MethodId} {args : Array Value} {below : List Frame} {meth : Method} {c : Code} {b : Nat} {D : va_G} {cy : Nat → ClassId} {G : Gm} {v0 : Nat} {v1 : Nat} {v2 : Int32} {v3 : Nat} {v4 : Nat} {v9 : Int32} {u0 : Int32} {S : St} {Q : Int32 → St → Prop} (C : CX p s m args meth c b D cy cX0_runOnce RX0 13 (some .boolean)) (hE : s.heap.size + 0 ≤ b + G.2.2) (t_v0 : ok G 0 v0) (t_v1 : ok G 7 v1) (t_v3 : ok G 4 v3) (t_v4 : ok G 8 v4) (h : f_X0_runOnce_127 G v0 v1 v2 v3 v4 v9 u0 Q S) : J p l e rm_X0_runOnce s m args below meth c b D cy 13 (zI b D cy below args s G Q) 0 0 G S 127 [(0, .ref (b + v0)), (1, .ref (b + v1)), (2, .int v2), (3, .ref (b + v3)), (4, .ref (b + v4)), (9, .int v9)] [.int u0] := by
  unfold f_X0_runOnce_127 at h
  refine jB C [(.istore 10, 2, 0), (.iload 9, 2, 0)] 131 [(10, .int u0), (0, .ref (b + v0)), (1, .ref (b + v1)), (2, .int v2), (3, .ref (b + v3)), (4, .ref (b + v4)), (9, .int v9)] [.int v9] (by decide +kernel) rfl rfl ?_
  refine jLdc C 133 (by decide +kernel : decode cX0_runOnce 131 = .ok (.ldc 82, 2)) rfl wd_813 ?_
  refine jIcmp_eq C 136 143 (by decide +kernel : decode cX0_runOnce 133 = .ok (.if_icmp .eq 10, 3)) rfl rfl (fun c1 => ?_) (fun c1 => ?_)
  · have h := it1 h c1
    refine jB C [(.iconst 0, 1, 0)] 144 [(10, .int u0), (0, .ref (b + v0)), (1, .ref (b + v1)), (2, .int v2), (3, .ref (b + v3)), (4, .ref (b + v4)), (9, .int v9)] [.int 0] (by decide +kernel) rfl rfl ?_
    exact jRetZ C (by decide +kernel : decode cX0_runOnce 144 = .ok (.ireturn, 1)) (Nat.le_refl _) (Nat.le_refl _) (by decide) ⟨rfl, h⟩
  · have h := it2 h c1
    refine jB C [(.iload 10, 2, 0)] 138 [(10, .int u0), (0, .ref (b + v0)), (1, .ref (b + v1)), (2, .int v2), (3, .ref (b + v3)), (4, .ref (b + v4)), (9, .int v9)] [.int u0] (by decide +kernel) rfl rfl ?_
    refine jLdc C 140 (by decide +kernel : decode cX0_runOnce 138 = .ok (.ldc 82, 2)) rfl wd_813 ?_
    refine jIcmp_ne C 143 145 (by decide +kernel : decode cX0_runOnce 140 = .ok (.if_icmp .ne 5, 3)) rfl rfl (fun c2 => ?_) (fun c2 => ?_)
    · have h := it2 h c2
      refine jB C [(.aload_n 1, 1, 0), (.iload_n 2, 1, 0)] 147 [(10, .int u0), (0, .ref (b + v0)), (1, .ref (b + v1)), (2, .int v2), (3, .ref (b + v3)), (4, .ref (b + v4)), (9, .int v9)] [.int v2, .ref (b + v1)] (by decide +kernel) rfl rfl ?_
      refine jcVN_I C 150 (rest := []) (ok_X8_verbOf t_v1 h) (by decide +kernel : decode cX0_runOnce 147 = .ok (.invokevirtual 83, 3)) rfl wn_814 wd_464 wp_19 wd_10 wd_465 ⟨rfl, rfl⟩ hd_X8_verbOf ⟨Nat.le_of_ble_eq_true rfl, Nat.le_of_ble_eq_true rfl⟩ t_v1 kX8 (by decide) rfl rfl rfl (Nat.le_of_ble_eq_true rfl) ⟨Nat.zero_le _, Nat.zero_le _⟩ (fun r4 S3 h => ?_)
      refine jB C [(.istore 11, 2, 0), (.aload_n 0, 1, 0)] 153 [(11, .int r4), (10, .int u0), (0, .ref (b + v0)), (1, .ref (b + v1)), (2, .int v2), (3, .ref (b + v3)), (4, .ref (b + v4)), (9, .int v9)] [.ref (b + v0)] (by decide +kernel) rfl rfl ?_
      obtain ⟨a5, e_a5, h⟩ := h
      refine jGetR C 156 (by decide +kernel : decode cX0_runOnce 153 = .ok (.getfield 35, 3)) rfl t_v0 kX0 3 (by decide) rfl rfl (by decide) wd_158 e_a5 rfl (fun t_a5 => ?_)
      refine jB C [(.aload_n 3, 1, 0), (.aload 4, 2, 0), (.iload 11, 2, 0), (.iload 9, 2, 0), (.iload 10, 2, 0), (.iconst 1, 1, 1)] 166 [(11, .int r4), (10, .int u0), (0, .ref (b + v0)), (1, .ref (b + v1)), (2, .int v2), (3, .ref (b + v3)), (4, .ref (b + v4)), (9, .int v9)] [.int 1, .int u0, .int v9, .int r4, .ref (b + v4), .ref (b + v3), .ref (b + a5)] (by decide +kernel) rfl rfl ?_
      refine jcVN_I C 169 (rest := []) (ok_X1_act t_a5 t_v3 t_v4 h) (by decide +kernel : decode cX0_runOnce 166 = .ok (.invokevirtual 86, 3)) rfl wn_815 wd_817 wp_69 wd_6 wd_818 ⟨rfl, rfl⟩ hd_X1_act ⟨Nat.le_of_ble_eq_true rfl, Nat.le_of_ble_eq_true rfl⟩ t_a5 kX1 (by decide) rfl rfl rfl (Nat.le_of_ble_eq_true rfl) ⟨Nat.zero_le _, Nat.zero_le _⟩ (fun r7 S6 h => ?_)
      refine jB C [(.istore 12, 2, 0), (.iload 12, 2, 0)] 173 [(12, .int r7), (11, .int r4), (10, .int u0), (0, .ref (b + v0)), (1, .ref (b + v1)), (2, .int v2), (3, .ref (b + v3)), (4, .ref (b + v4)), (9, .int v9)] [.int r7] (by decide +kernel) rfl rfl ?_
      refine jIf_ge C 176 178 (by decide +kernel : decode cX0_runOnce 173 = .ok (.ifCond .ge 5, 3)) rfl rfl (fun c8 => ?_) (fun c8 => ?_)
      · have h := it1 h c8
        refine jB C [(.aload_n 0, 1, 0), (.dup, 1, 0)] 180 [(12, .int r7), (11, .int r4), (10, .int u0), (0, .ref (b + v0)), (1, .ref (b + v1)), (2, .int v2), (3, .ref (b + v3)), (4, .ref (b + v4)), (9, .int v9)] [.ref (b + v0), .ref (b + v0)] (by decide +kernel) rfl rfl ?_
        refine jGetI C 183 (by decide +kernel : decode cX0_runOnce 180 = .ok (.getfield 57, 3)) rfl t_v0 kX0 6 (by decide) rfl rfl (by decide) wd_161 ?_
        refine jB C [(.iconst 1, 1, 1), (.iadd, 1, 0)] 185 [(12, .int r7), (11, .int r4), (10, .int u0), (0, .ref (b + v0)), (1, .ref (b + v1)), (2, .int v2), (3, .ref (b + v3)), (4, .ref (b + v4)), (9, .int v9)] [.int ((S6.1 v0 6) + 1), .ref (b + v0)] (by decide +kernel) rfl rfl ?_
        refine jPutI C 188 (by decide +kernel : decode cX0_runOnce 185 = .ok (.putfield 57, 3)) rfl hE t_v0 kX0 6 (by decide) rfl rfl (by decide) rfl wd_161 rfl rfl rfl ?_
        refine jTopS (fun S9 e_S9 => ?_)
        have h := h S9 e_S9
        refine jB C [(.aload_n 0, 1, 0), (.iload 11, 2, 0), (.iconst 1, 1, 1)] 192 [(12, .int r7), (11, .int r4), (10, .int u0), (0, .ref (b + v0)), (1, .ref (b + v1)), (2, .int v2), (3, .ref (b + v3)), (4, .ref (b + v4)), (9, .int v9)] [.int 1, .int r4, .ref (b + v0)] (by decide +kernel) rfl rfl ?_
        refine jIcmp_ne C 195 200 (by decide +kernel : decode cX0_runOnce 192 = .ok (.if_icmp .ne 8, 3)) rfl rfl (fun c10 => ?_) (fun c10 => ?_)
        · have h := it2 h c10
          refine jB C [(.aload_n 0, 1, 0)] 201 [(12, .int r7), (11, .int r4), (10, .int u0), (0, .ref (b + v0)), (1, .ref (b + v1)), (2, .int v2), (3, .ref (b + v3)), (4, .ref (b + v4)), (9, .int v9)] [.ref (b + v0), .ref (b + v0)] (by decide +kernel) rfl rfl ?_
          refine jGetI C 204 (by decide +kernel : decode cX0_runOnce 201 = .ok (.getfield 61, 3)) rfl t_v0 kX0 7 (by decide) rfl rfl (by decide) wd_163 ?_
          refine jSub [] rfl ?_
          exact j_X0_runOnce_204 C hE t_v0 h
        · have h := it1 h c10
          refine jB C [(.iload 12, 2, 0)] 197 [(12, .int r7), (11, .int r4), (10, .int u0), (0, .ref (b + v0)), (1, .ref (b + v1)), (2, .int v2), (3, .ref (b + v3)), (4, .ref (b + v4)), (9, .int v9)] [.int r7, .ref (b + v0)] (by decide +kernel) rfl rfl ?_
          refine jGoto C 204 (by decide +kernel : decode cX0_runOnce 197 = .ok (.goto 7, 3)) rfl ?_
          refine jSub [] rfl ?_
          exact j_X0_runOnce_204 C hE t_v0 h
      · have h := it2 h c8
        refine jB C [(.iconst 0, 1, 0)] 177 [(12, .int r7), (11, .int r4), (10, .int u0), (0, .ref (b + v0)), (1, .ref (b + v1)), (2, .int v2), (3, .ref (b + v3)), (4, .ref (b + v4)), (9, .int v9)] [.int 0] (by decide +kernel) rfl rfl ?_
        exact jRetZ C (by decide +kernel : decode cX0_runOnce 177 = .ok (.ireturn, 1)) (Nat.le_refl _) (Nat.le_refl _) (by decide) ⟨rfl, h⟩
    · have h := it1 h c2
      refine jB C [(.iconst 0, 1, 0)] 144 [(10, .int u0), (0, .ref (b + v0)), (1, .ref (b + v1)), (2, .int v2), (3, .ref (b + v3)), (4, .ref (b + v4)), (9, .int v9)] [.int 0] (by decide +kernel) rfl rfl ?_
      exact jRetZ C (by decide +kernel : decode cX0_runOnce 144 = .ok (.ireturn, 1)) (Nat.le_refl _) (Nat.le_refl _) (by decide) ⟨rfl, h⟩
set_option maxHeartbeats 4000000 in
set_option maxRecDepth 100000 in
theorem j_X0_runOnce_98 {p : Program} {l : Launch} {e : Env} {s : State} {m : MethodId} {args : Array Value} {below : List Frame} {meth : Method} {c : Code} {b : Nat} {D : va_G} {cy : Nat → ClassId} {G : Gm} {v0 : Nat} {v1 : Nat} {v2 : Int32} {v3 : Nat} {v4 : Nat} {v6 : Int32} {v7 : Int32} {u0 : Int32} {S : St} {Q : Int32 → St → Prop} (C : CX p s m args meth c b D cy cX0_runOnce RX0 13 (some .boolean)) (hE : s.heap.size + 0 ≤ b + G.2.2) (t_v0 : ok G 0 v0) (t_v1 : ok G 7 v1) (t_v3 : ok G 4 v3) (t_v4 : ok G 8 v4) (h : f_X0_runOnce_98 G v0 v1 v2 v3 v4 v6 v7 u0 Q S) : J p l e rm_X0_runOnce s m args below meth c b D cy 13 (zI b D cy below args s G Q) 0 0 G S 98 [(0, .ref (b + v0)), (1, .ref (b + v1)), (2, .int v2), (3, .ref (b + v3)), (4, .ref (b + v4)), (6, .int v6), (7, .int v7)] [.int u0] := by
  unfold f_X0_runOnce_98 at h
  refine jB C [(.istore 9, 2, 0), (.iload 6, 2, 0), (.iload 7, 2, 0)] 104 [(9, .int u0), (0, .ref (b + v0)), (1, .ref (b + v1)), (2, .int v2), (3, .ref (b + v3)), (4, .ref (b + v4)), (6, .int v6), (7, .int v7)] [.int v7, .int v6] (by decide +kernel) rfl rfl ?_
  refine jIcmp_ge C 107 126 (by decide +kernel : decode cX0_runOnce 104 = .ok (.if_icmp .ge 22, 3)) rfl rfl (fun c1 => ?_) (fun c1 => ?_)
  · have h := it1 h c1
    refine jB C [(.iconst 0, 1, 0)] 127 [(9, .int u0), (0, .ref (b + v0)), (1, .ref (b + v1)), (2, .int v2), (3, .ref (b + v3)), (4, .ref (b + v4)), (6, .int v6), (7, .int v7)] [.int 0] (by decide +kernel) rfl rfl ?_
    refine jSub [1, 2, 3, 4, 5, 0] rfl ?_
    exact j_X0_runOnce_127 C hE t_v0 t_v1 t_v3 t_v4 h
  · have h := it2 h c1
    refine jB C [(.aload_n 0, 1, 0)] 108 [(9, .int u0), (0, .ref (b + v0)), (1, .ref (b + v1)), (2, .int v2), (3, .ref (b + v3)), (4, .ref (b + v4)), (6, .int v6), (7, .int v7)] [.ref (b + v0)] (by decide +kernel) rfl rfl ?_
    obtain ⟨a2, e_a2, h⟩ := h
    refine jGetR C 111 (by decide +kernel : decode cX0_runOnce 108 = .ok (.getfield 42, 3)) rfl t_v0 kX0 4 (by decide) rfl rfl (by decide) wd_159 e_a2 rfl (fun t_a2 => ?_)
    refine jB C [(.aload_n 1, 1, 0), (.iload 6, 2, 0), (.iload 7, 2, 0), (.aload_n 0, 1, 0)] 117 [(9, .int u0), (0, .ref (b + v0)), (1, .ref (b + v1)), (2, .int v2), (3, .ref (b + v3)), (4, .ref (b + v4)), (6, .int v6), (7, .int v7)] [.ref (b + v0), .int v7, .int v6, .ref (b + v1), .ref (b + a2)] (by decide +kernel) rfl rfl ?_
    obtain ⟨a3, e_a3, h⟩ := h
    refine jGetR C 120 (by decide +kernel : decode cX0_runOnce 117 = .ok (.getfield 46, 3)) rfl t_v0 kX0 5 (by decide) rfl rfl (by decide) wd_160 e_a3 rfl (fun t_a3 => ?_)
    refine jcVN_I C 123 (rest := []) (ok_X7_worth t_a2 t_v1 t_a3 h) (by decide +kernel : decode cX0_runOnce 120 = .ok (.invokevirtual 78, 3)) rfl wn_812 wd_472 wp_21 wd_5 wd_473 ⟨rfl, rfl⟩ hd_X7_worth ⟨Nat.le_of_ble_eq_true rfl, Nat.le_of_ble_eq_true rfl⟩ t_a2 kX7 (by decide) rfl rfl rfl (Nat.le_of_ble_eq_true rfl) ⟨Nat.zero_le _, Nat.zero_le _⟩ (fun r5 S4 h => ?_)
    refine jGoto C 127 (by decide +kernel : decode cX0_runOnce 123 = .ok (.goto 4, 3)) rfl ?_
    refine jSub [1, 2, 3, 4, 5, 0] rfl ?_
    exact j_X0_runOnce_127 C hE t_v0 t_v1 t_v3 t_v4 h
set_option maxHeartbeats 4000000 in
set_option maxRecDepth 100000 in
theorem j_X0_runOnce_71 {p : Program} {l : Launch} {e : Env} {s : State} {m : MethodId} {args : Array Value} {below : List Frame} {meth : Method} {c : Code} {b : Nat} {D : va_G} {cy : Nat → ClassId} {G : Gm} {v0 : Nat} {v1 : Nat} {v2 : Int32} {v3 : Nat} {v4 : Nat} {v5 : Int32} {v6 : Int32} {v7 : Int32} {S : St} {Q : Int32 → St → Prop} (C : CX p s m args meth c b D cy cX0_runOnce RX0 13 (some .boolean)) (hE : s.heap.size + 0 ≤ b + G.2.2) (t_v0 : ok G 0 v0) (t_v1 : ok G 7 v1) (t_v3 : ok G 4 v3) (t_v4 : ok G 8 v4) (h : f_X0_runOnce_71 G v0 v1 v2 v3 v4 v5 v6 v7 Q S) : J p l e rm_X0_runOnce s m args below meth c b D cy 13 (zI b D cy below args s G Q) 0 0 G S 71 [(0, .ref (b + v0)), (1, .ref (b + v1)), (2, .int v2), (3, .ref (b + v3)), (4, .ref (b + v4)), (5, .int v5), (6, .int v6), (7, .int v7)] [] := by
  unfold f_X0_runOnce_71 at h
  refine jB C [(.iload 5, 2, 0), (.iload 6, 2, 0)] 75 [(0, .ref (b + v0)), (1, .ref (b + v1)), (2, .int v2), (3, .ref (b + v3)), (4, .ref (b + v4)), (5, .int v5), (6, .int v6), (7, .int v7)] [.int v6, .int v5] (by decide +kernel) rfl rfl ?_
  refine jIcmp_ge C 78 97 (by decide +kernel : decode cX0_runOnce 75 = .ok (.if_icmp .ge 22, 3)) rfl rfl (fun c1 => ?_) (fun c1 => ?_)
  · have h := it1 h c1
    refine jB C [(.iconst 0, 1, 0)] 98 [(0, .ref (b + v0)), (1, .ref (b + v1)), (2, .int v2), (3, .ref (b + v3)), (4, .ref (b + v4)), (5, .int v5), (6, .int v6), (7, .int v7)] [.int 0] (by decide +kernel) rfl rfl ?_
    refine jSub [0, 1, 2, 3, 4, 6, 7] rfl ?_
    exact j_X0_runOnce_98 C hE t_v0 t_v1 t_v3 t_v4 h
  · have h := it2 h c1
    refine jB C [(.aload_n 0, 1, 0)] 79 [(0, .ref (b + v0)), (1, .ref (b + v1)), (2, .int v2), (3, .ref (b + v3)), (4, .ref (b + v4)), (5, .int v5), (6, .int v6), (7, .int v7)] [.ref (b + v0)] (by decide +kernel) rfl rfl ?_
    obtain ⟨a2, e_a2, h⟩ := h
    refine jGetR C 82 (by decide +kernel : decode cX0_runOnce 79 = .ok (.getfield 42, 3)) rfl t_v0 kX0 4 (by decide) rfl rfl (by decide) wd_159 e_a2 rfl (fun t_a2 => ?_)
    refine jB C [(.aload_n 1, 1, 0), (.iload 5, 2, 0), (.iload 6, 2, 0), (.aload_n 0, 1, 0)] 88 [(0, .ref (b + v0)), (1, .ref (b + v1)), (2, .int v2), (3, .ref (b + v3)), (4, .ref (b + v4)), (5, .int v5), (6, .int v6), (7, .int v7)] [.ref (b + v0), .int v6, .int v5, .ref (b + v1), .ref (b + a2)] (by decide +kernel) rfl rfl ?_
    obtain ⟨a3, e_a3, h⟩ := h
    refine jGetR C 91 (by decide +kernel : decode cX0_runOnce 88 = .ok (.getfield 46, 3)) rfl t_v0 kX0 5 (by decide) rfl rfl (by decide) wd_160 e_a3 rfl (fun t_a3 => ?_)
    refine jcVN_I C 94 (rest := []) (ok_X7_worth t_a2 t_v1 t_a3 h) (by decide +kernel : decode cX0_runOnce 91 = .ok (.invokevirtual 78, 3)) rfl wn_812 wd_472 wp_21 wd_5 wd_473 ⟨rfl, rfl⟩ hd_X7_worth ⟨Nat.le_of_ble_eq_true rfl, Nat.le_of_ble_eq_true rfl⟩ t_a2 kX7 (by decide) rfl rfl rfl (Nat.le_of_ble_eq_true rfl) ⟨Nat.zero_le _, Nat.zero_le _⟩ (fun r5 S4 h => ?_)
    refine jGoto C 98 (by decide +kernel : decode cX0_runOnce 94 = .ok (.goto 4, 3)) rfl ?_
    refine jSub [0, 1, 2, 3, 4, 6, 7] rfl ?_
    exact j_X0_runOnce_98 C hE t_v0 t_v1 t_v3 t_v4 h
set_option maxHeartbeats 4000000 in
set_option maxRecDepth 100000 in
theorem j_X0_runOnce {p : Program} {l : Launch} {e : Env} {s : State} {m : MethodId} {args : Array Value} {below : List Frame} {meth : Method} {c : Code} {b : Nat} {D : va_G} {cy : Nat → ClassId} {G : Gm} {v0 : Nat} {v1 : Nat} {v2 : Int32} {v3 : Nat} {v4 : Nat} {S : St} {Q : Int32 → St → Prop} (C : CX p s m args meth c b D cy cX0_runOnce RX0 13 (some .boolean)) (hE : s.heap.size + 0 ≤ b + G.2.2) (t_v0 : ok G 0 v0) (t_v1 : ok G 7 v1) (t_v3 : ok G 4 v3) (t_v4 : ok G 8 v4) (h : f_X0_runOnce G v0 v1 v2 v3 v4 Q S) : J p l e rm_X0_runOnce s m args below meth c b D cy 13 (zI b D cy below args s G Q) 0 0 G S 0 [(0, .ref (b + v0)), (1, .ref (b + v1)), (2, .int v2), (3, .ref (b + v3)), (4, .ref (b + v4))] [] := by
  unfold f_X0_runOnce at h
  refine jB C [(.aload_n 0, 1, 0), (.aload_n 1, 1, 0), (.iload_n 2, 1, 0)] 3 [(0, .ref (b + v0)), (1, .ref (b + v1)), (2, .int v2), (3, .ref (b + v3)), (4, .ref (b + v4))] [.int v2, .ref (b + v1), .ref (b + v0)] (by decide +kernel) rfl rfl ?_
  refine jcVN_I C 6 (rest := [.ref (b + v0)]) (ok_X8_usesOf t_v1 h) (by decide +kernel : decode cX0_runOnce 3 = .ok (.invokevirtual 64, 3)) rfl wn_798 wd_800 wp_67 wd_10 wd_801 ⟨rfl, rfl⟩ hd_X8_usesOf ⟨Nat.le_of_ble_eq_true rfl, Nat.le_of_ble_eq_true rfl⟩ t_v1 kX8 (by decide) rfl rfl rfl (Nat.le_of_ble_eq_true rfl) ⟨Nat.zero_le _, Nat.zero_le _⟩ (fun r2 S1 h => ?_)
  refine jB C [(.aload_n 3, 1, 0)] 7 [(0, .ref (b + v0)), (1, .ref (b + v1)), (2, .int v2), (3, .ref (b + v3)), (4, .ref (b + v4))] [.ref (b + v3), .int r2, .ref (b + v0)] (by decide +kernel) rfl rfl ?_
  refine jcV_V C 10 (rest := []) (ok_X0_learnWords t_v0 t_v3 h) (by decide +kernel : decode cX0_runOnce 7 = .ok (.invokevirtual 70, 3)) rfl wd_802 wd_804 wp_68 wd_7 wd_805 ⟨rfl, rfl⟩ hd_X0_learnWords ⟨Nat.le_of_ble_eq_true rfl, Nat.le_of_ble_eq_true rfl⟩ t_v0 kX0 (by decide) rfl rfl rfl (Nat.le_of_ble_eq_true rfl) ⟨Nat.zero_le _, Nat.zero_le _⟩ (fun S3 h => ?_)
  refine jB C [(.aload_n 1, 1, 0), (.iload_n 2, 1, 0), (.iconst 0, 1, 0)] 13 [(0, .ref (b + v0)), (1, .ref (b + v1)), (2, .int v2), (3, .ref (b + v3)), (4, .ref (b + v4))] [.int 0, .int v2, .ref (b + v1)] (by decide +kernel) rfl rfl ?_
  refine jcVN_I C 16 (rest := []) (ok_X8_markOf t_v1 h) (by decide +kernel : decode cX0_runOnce 13 = .ok (.invokevirtual 74, 3)) rfl wn_811 wd_468 wp_20 wd_10 wd_469 ⟨rfl, rfl⟩ hd_X8_markOf ⟨Nat.le_of_ble_eq_true rfl, Nat.le_of_ble_eq_true rfl⟩ t_v1 kX8 (by decide) rfl rfl rfl (Nat.le_of_ble_eq_true rfl) ⟨Nat.zero_le _, Nat.zero_le _⟩ (fun r5 S4 h => ?_)
  refine jB C [(.istore 5, 2, 0), (.aload_n 1, 1, 0), (.iload_n 2, 1, 0), (.iconst 1, 1, 1)] 21 [(5, .int r5), (0, .ref (b + v0)), (1, .ref (b + v1)), (2, .int v2), (3, .ref (b + v3)), (4, .ref (b + v4))] [.int 1, .int v2, .ref (b + v1)] (by decide +kernel) rfl rfl ?_
  refine jcVN_I C 24 (rest := []) (ok_X8_markOf t_v1 h) (by decide +kernel : decode cX0_runOnce 21 = .ok (.invokevirtual 74, 3)) rfl wn_811 wd_468 wp_20 wd_10 wd_469 ⟨rfl, rfl⟩ hd_X8_markOf ⟨Nat.le_of_ble_eq_true rfl, Nat.le_of_ble_eq_true rfl⟩ t_v1 kX8 (by decide) rfl rfl rfl (Nat.le_of_ble_eq_true rfl) ⟨Nat.zero_le _, Nat.zero_le _⟩ (fun r7 S6 h => ?_)
  refine jB C [(.istore 6, 2, 0), (.aload_n 1, 1, 0), (.iload_n 2, 1, 0), (.iconst 2, 1, 2)] 29 [(6, .int r7), (5, .int r5), (0, .ref (b + v0)), (1, .ref (b + v1)), (2, .int v2), (3, .ref (b + v3)), (4, .ref (b + v4))] [.int 2, .int v2, .ref (b + v1)] (by decide +kernel) rfl rfl ?_
  refine jcVN_I C 32 (rest := []) (ok_X8_markOf t_v1 h) (by decide +kernel : decode cX0_runOnce 29 = .ok (.invokevirtual 74, 3)) rfl wn_811 wd_468 wp_20 wd_10 wd_469 ⟨rfl, rfl⟩ hd_X8_markOf ⟨Nat.le_of_ble_eq_true rfl, Nat.le_of_ble_eq_true rfl⟩ t_v1 kX8 (by decide) rfl rfl rfl (Nat.le_of_ble_eq_true rfl) ⟨Nat.zero_le _, Nat.zero_le _⟩ (fun r9 S8 h => ?_)
  refine jB C [(.istore 7, 2, 0), (.aload_n 1, 1, 0), (.iload_n 2, 1, 0), (.iconst 3, 1, 3)] 37 [(7, .int r9), (6, .int r7), (5, .int r5), (0, .ref (b + v0)), (1, .ref (b + v1)), (2, .int v2), (3, .ref (b + v3)), (4, .ref (b + v4))] [.int 3, .int v2, .ref (b + v1)] (by decide +kernel) rfl rfl ?_
  refine jcVN_I C 40 (rest := []) (ok_X8_markOf t_v1 h) (by decide +kernel : decode cX0_runOnce 37 = .ok (.invokevirtual 74, 3)) rfl wn_811 wd_468 wp_20 wd_10 wd_469 ⟨rfl, rfl⟩ hd_X8_markOf ⟨Nat.le_of_ble_eq_true rfl, Nat.le_of_ble_eq_true rfl⟩ t_v1 kX8 (by decide) rfl rfl rfl (Nat.le_of_ble_eq_true rfl) ⟨Nat.zero_le _, Nat.zero_le _⟩ (fun r11 S10 h => ?_)
  refine jB C [(.istore 8, 2, 0), (.iload 7, 2, 0), (.iload 8, 2, 0)] 46 [(8, .int r11), (7, .int r9), (6, .int r7), (5, .int r5), (0, .ref (b + v0)), (1, .ref (b + v1)), (2, .int v2), (3, .ref (b + v3)), (4, .ref (b + v4))] [.int r11, .int r9] (by decide +kernel) rfl rfl ?_
  refine jIcmp_ge C 49 71 (by decide +kernel : decode cX0_runOnce 46 = .ok (.if_icmp .ge 25, 3)) rfl rfl (fun c12 => ?_) (fun c12 => ?_)
  · have h := it1 h c12
    refine jSub [4, 5, 6, 7, 8, 3, 2, 1] rfl ?_
    exact j_X0_runOnce_71 C hE t_v0 t_v1 t_v3 t_v4 h
  · have h := it2 h c12
    refine jB C [(.aload_n 0, 1, 0)] 50 [(8, .int r11), (7, .int r9), (6, .int r7), (5, .int r5), (0, .ref (b + v0)), (1, .ref (b + v1)), (2, .int v2), (3, .ref (b + v3)), (4, .ref (b + v4))] [.ref (b + v0)] (by decide +kernel) rfl rfl ?_
    obtain ⟨a13, e_a13, h⟩ := h
    refine jGetR C 53 (by decide +kernel : decode cX0_runOnce 50 = .ok (.getfield 42, 3)) rfl t_v0 kX0 4 (by decide) rfl rfl (by decide) wd_159 e_a13 rfl (fun t_a13 => ?_)
    refine jB C [(.aload_n 1, 1, 0), (.iload 7, 2, 0), (.iload 8, 2, 0), (.aload_n 0, 1, 0)] 59 [(8, .int r11), (7, .int r9), (6, .int r7), (5, .int r5), (0, .ref (b + v0)), (1, .ref (b + v1)), (2, .int v2), (3, .ref (b + v3)), (4, .ref (b + v4))] [.ref (b + v0), .int r11, .int r9, .ref (b + v1), .ref (b + a13)] (by decide +kernel) rfl rfl ?_
    obtain ⟨a14, e_a14, h⟩ := h
    refine jGetR C 62 (by decide +kernel : decode cX0_runOnce 59 = .ok (.getfield 46, 3)) rfl t_v0 kX0 5 (by decide) rfl rfl (by decide) wd_160 e_a14 rfl (fun t_a14 => ?_)
    refine jcVN_I C 65 (rest := []) (ok_X7_worth t_a13 t_v1 t_a14 h) (by decide +kernel : decode cX0_runOnce 62 = .ok (.invokevirtual 78, 3)) rfl wn_812 wd_472 wp_21 wd_5 wd_473 ⟨rfl, rfl⟩ hd_X7_worth ⟨Nat.le_of_ble_eq_true rfl, Nat.le_of_ble_eq_true rfl⟩ t_a13 kX7 (by decide) rfl rfl rfl (Nat.le_of_ble_eq_true rfl) ⟨Nat.zero_le _, Nat.zero_le _⟩ (fun r16 S15 h => ?_)
    refine jB C [(.iconst 1, 1, 1)] 66 [(8, .int r11), (7, .int r9), (6, .int r7), (5, .int r5), (0, .ref (b + v0)), (1, .ref (b + v1)), (2, .int v2), (3, .ref (b + v3)), (4, .ref (b + v4))] [.int 1, .int r16] (by decide +kernel) rfl rfl ?_
    refine jIcmp_eq C 69 71 (by decide +kernel : decode cX0_runOnce 66 = .ok (.if_icmp .eq 5, 3)) rfl rfl (fun c17 => ?_) (fun c17 => ?_)
    · have h := it1 h c17
      refine jSub [4, 5, 6, 7, 8, 3, 2, 1] rfl ?_
      exact j_X0_runOnce_71 C hE t_v0 t_v1 t_v3 t_v4 h
    · have h := it2 h c17
      refine jB C [(.iconst 1, 1, 1)] 70 [(8, .int r11), (7, .int r9), (6, .int r7), (5, .int r5), (0, .ref (b + v0)), (1, .ref (b + v1)), (2, .int v2), (3, .ref (b + v3)), (4, .ref (b + v4))] [.int 1] (by decide +kernel) rfl rfl ?_
      exact jRetZ C (by decide +kernel : decode cX0_runOnce 70 = .ok (.ireturn, 1)) (Nat.le_refl _) (Nat.le_refl _) (by decide) ⟨rfl, h⟩
theorem ok_X0_runOnce {G : Gm} {v0 : Nat} {v1 : Nat} {v2 : Int32} {v3 : Nat} {v4 : Nat} {S : St} {Q : Int32 → St → Prop}  (t_v0 : ok G 0 v0) (t_v1 : ok G 7 v1) (t_v3 : ok G 4 v3) (t_v4 : ok G 8 v4) (h : f_X0_runOnce G v0 v1 v2 v3 v4 Q S) : MT yX0_runOnce cX0_runOnce 13 (some .boolean) rm_X0_runOnce 0 0 (fun b => [.ref (b + v0), .ref (b + v1), .int v2, .ref (b + v3), .ref (b + v4)]) G S (QI (fun r G1 S1 => G1 = G ∧ Q r S1)) := MT.ofJ (by decide +kernel) (fun b => [(0, .ref (b + v0)), (1, .ref (b + v1)), (2, .int v2), (3, .ref (b + v3)), (4, .ref (b + v4))]) (fun b => rfl) (fun b => Nat.le_of_ble_eq_true rfl) (fun l b D cy p e s m below meth c C hE hn => j_X0_runOnce C hE t_v0 t_v1 t_v3 t_v4 h)
theorem hd_X0_runOnce : yX0_runOnce.cls ≠ "java/lang/invoke/MethodHandle" ∧ yX0_runOnce.cls ≠ "java/lang/invoke/VarHandle" ∧ (parseMethodDescriptor yX0_runOnce.desc).map (fun d => d.parameters.length) = some 4 := by decide +kernel
abbrev rm_X0_takeBack : Room := { frames := 2, cells := 0, slots := 0, locals := 82 }
set_option maxHeartbeats 4000000 in
set_option maxRecDepth 100000 in
theorem j_X0_takeBack {p : Program} {l : Launch} {e : Env} {s : State} {m : MethodId} {args : Array Value} {below : List Frame} {meth : Method} {c : Code} {b : Nat} {D : va_G} {cy : Nat → ClassId} {G : Gm} {v0 : Nat} {v1 : Nat} {v2 : Nat} {S : St} {Q : St → Prop} (C : CX p s m args meth c b D cy cX0_takeBack RX0 3 none) (hE : s.heap.size + 0 ≤ b + G.2.2) (t_v0 : ok G 0 v0) (t_v1 : ok G 4 v1) (t_v2 : ok G 8 v2) (h : f_X0_takeBack G v0 v1 v2 Q S) : J p l e rm_X0_takeBack s m args below meth c b D cy 3 (zV b D cy below args s G Q) 0 0 G S 0 [(0, .ref (b + v0)), (1, .ref (b + v1)), (2, .ref (b + v2))] [] := by
  unfold f_X0_takeBack at h
  refine jB C [(.aload_n 1, 1, 0), (.aload_n 0, 1, 0)] 2 [(0, .ref (b + v0)), (1, .ref (b + v1)), (2, .ref (b + v2))] [.ref (b + v0), .ref (b + v1)] (by decide +kernel) rfl rfl ?_
  obtain ⟨a1, e_a1, h⟩ := h
  refine jGetR C 5 (by decide +kernel : decode cX0_takeBack 2 = .ok (.getfield 12, 3)) rfl t_v0 kX0 0 (by decide) rfl rfl (by decide) wd_155 e_a1 rfl (fun t_a1 => ?_)
  refine jcVN_V C 8 (rest := []) (ok_X5_copyFrom t_v1 t_a1 h) (by decide +kernel : decode cX0_takeBack 5 = .ok (.invokevirtual 50, 3)) rfl wn_780 wd_782 wp_63 wd_2 wd_783 ⟨rfl, rfl⟩ hd_X5_copyFrom ⟨Nat.le_of_ble_eq_true rfl, Nat.le_of_ble_eq_true rfl⟩ t_v1 kX5 (by decide) rfl rfl rfl (Nat.le_of_ble_eq_true rfl) ⟨Nat.zero_le _, Nat.zero_le _⟩ (fun S2 h => ?_)
  refine jB C [(.aload_n 2, 1, 0), (.aload_n 0, 1, 0)] 10 [(0, .ref (b + v0)), (1, .ref (b + v1)), (2, .ref (b + v2))] [.ref (b + v0), .ref (b + v2)] (by decide +kernel) rfl rfl ?_
  obtain ⟨a3, e_a3, h⟩ := h
  refine jGetR C 13 (by decide +kernel : decode cX0_takeBack 10 = .ok (.getfield 21, 3)) rfl t_v0 kX0 1 (by decide) rfl rfl (by decide) wd_156 e_a3 rfl (fun t_a3 => ?_)
  refine jcVN_V C 16 (rest := []) (ok_X9_copyFrom t_v2 t_a3 h) (by decide +kernel : decode cX0_takeBack 13 = .ok (.invokevirtual 54, 3)) rfl wn_785 wd_787 wp_64 wd_3 wd_788 ⟨rfl, rfl⟩ hd_X9_copyFrom ⟨Nat.le_of_ble_eq_true rfl, Nat.le_of_ble_eq_true rfl⟩ t_v2 kX9 (by decide) rfl rfl rfl (Nat.le_of_ble_eq_true rfl) ⟨Nat.zero_le _, Nat.zero_le _⟩ (fun S4 h => ?_)
  exact jRetV C (by decide +kernel : decode cX0_takeBack 16 = .ok (.return_, 1)) (Nat.le_refl _) (Nat.le_refl _) ⟨rfl, h⟩
theorem ok_X0_takeBack {G : Gm} {v0 : Nat} {v1 : Nat} {v2 : Nat} {S : St} {Q : St → Prop}  (t_v0 : ok G 0 v0) (t_v1 : ok G 4 v1) (t_v2 : ok G 8 v2) (h : f_X0_takeBack G v0 v1 v2 Q S) : MT yX0_takeBack cX0_takeBack 3 none rm_X0_takeBack 0 0 (fun b => [.ref (b + v0), .ref (b + v1), .ref (b + v2)]) G S (QV (fun G1 S1 => G1 = G ∧ Q S1)) := MT.ofJ (by decide +kernel) (fun b => [(0, .ref (b + v0)), (1, .ref (b + v1)), (2, .ref (b + v2))]) (fun b => rfl) (fun b => Nat.le_of_ble_eq_true rfl) (fun l b D cy p e s m below meth c C hE hn => j_X0_takeBack C hE t_v0 t_v1 t_v2 h)
theorem hd_X0_takeBack : yX0_takeBack.cls ≠ "java/lang/invoke/MethodHandle" ∧ yX0_takeBack.cls ≠ "java/lang/invoke/VarHandle" ∧ (parseMethodDescriptor yX0_takeBack.desc).map (fun d => d.parameters.length) = some 2 := by decide +kernel
abbrev rm_X10_accept : Room := { frames := 0, cells := 0, slots := 0, locals := 0 }
set_option maxHeartbeats 4000000 in
set_option maxRecDepth 100000 in
theorem j_X10_accept {p : Program} {l : Launch} {e : Env} {s : State} {m : MethodId} {args : Array Value} {below : List Frame} {meth : Method} {c : Code} {b : Nat} {D : va_G} {cy : Nat → ClassId} {G : Gm} {v0 : Nat} {v1 : Int32} {S : St} {Q : Int32 → St → Prop} (C : CX p s m args meth c b D cy cX10_accept RX10 2 (some .int)) (hE : s.heap.size + 0 ≤ b + G.2.2) (t_v0 : ok G 9 v0) (h : f_X10_accept G v0 v1 Q S) : J p l e rm_X10_accept s m args below meth c b D cy 2 (zI b D cy below args s G Q) 0 0 G S 0 [(0, .ref (b + v0)), (1, .int v1)] [] := by
  unfold f_X10_accept at h
  refine jB C [(.aload_n 0, 1, 0), (.iconst 0, 1, 0)] 2 [(0, .ref (b + v0)), (1, .int v1)] [.int 0, .ref (b + v0)] (by decide +kernel) rfl rfl ?_
  refine jPutI C 5 (by decide +kernel : decode cX10_accept 2 = .ok (.putfield 311, 3)) rfl hE t_v0 kX10 10 (by decide) rfl rfl (by decide) rfl wd_321 rfl rfl rfl ?_
  refine jTopS (fun S1 e_S1 => ?_)
  have h := h S1 e_S1
  refine jB C [(.iload_n 1, 1, 0)] 6 [(0, .ref (b + v0)), (1, .int v1)] [.int v1] (by decide +kernel) rfl rfl ?_
  exact jRetI C (by decide +kernel : decode cX10_accept 6 = .ok (.ireturn, 1)) (Nat.le_refl _) (Nat.le_refl _) ⟨rfl, h⟩
theorem ok_X10_accept {G : Gm} {v0 : Nat} {v1 : Int32} {S : St} {Q : Int32 → St → Prop}  (t_v0 : ok G 9 v0) (h : f_X10_accept G v0 v1 Q S) : MT yX10_accept cX10_accept 2 (some .int) rm_X10_accept 0 0 (fun b => [.ref (b + v0), .int v1]) G S (QI (fun r G1 S1 => G1 = G ∧ Q r S1)) := MT.ofJ (by decide +kernel) (fun b => [(0, .ref (b + v0)), (1, .int v1)]) (fun b => rfl) (fun b => Nat.le_of_ble_eq_true rfl) (fun l b D cy p e s m below meth c C hE hn => j_X10_accept C hE t_v0 h)
theorem hd_X10_accept : yX10_accept.cls ≠ "java/lang/invoke/MethodHandle" ∧ yX10_accept.cls ≠ "java/lang/invoke/VarHandle" ∧ (parseMethodDescriptor yX10_accept.desc).map (fun d => d.parameters.length) = some 1 := by decide +kernel
abbrev rm_X5_setWanted : Room := { frames := 1, cells := 0, slots := 0, locals := 21 }
set_option maxHeartbeats 4000000 in
set_option maxRecDepth 100000 in
theorem j_X5_setWanted {p : Program} {l : Launch} {e : Env} {s : State} {m : MethodId} {args : Array Value} {below : List Frame} {meth : Method} {c : Code} {b : Nat} {D : va_G} {cy : Nat → ClassId} {G : Gm} {v0 : Nat} {v1 : Int32} {v2 : Int32} {S : St} {Q : St → Prop} (C : CX p s m args meth c b D cy cX5_setWanted RX5 3 none) (hE : s.heap.size + 0 ≤ b + G.2.2) (t_v0 : ok G 4 v0) (h : f_X5_setWanted G v0 v1 v2 Q S) : J p l e rm_X5_setWanted s m args below meth c b D cy 3 (zV b D cy below args s G Q) 0 0 G S 0 [(0, .ref (b + v0)), (1, .int v1), (2, .int v2)] [] := by
  unfold f_X5_setWanted at h
  refine jB C [(.aload_n 0, 1, 0), (.iload_n 1, 1, 0)] 2 [(0, .ref (b + v0)), (1, .int v1), (2, .int v2)] [.int v1, .ref (b + v0)] (by decide +kernel) rfl rfl ?_
  refine jcV_I C 5 (rest := []) (ok_X5_has t_v0 h) (by decide +kernel : decode cX5_setWanted 2 = .ok (.invokevirtual 66, 3)) rfl wd_371 wd_373 wp_4 wd_2 wd_374 ⟨rfl, rfl⟩ hd_X5_has ⟨Nat.le_of_ble_eq_true rfl, Nat.le_of_ble_eq_true rfl⟩ t_v0 kX5 (by decide) rfl rfl rfl (Nat.le_of_ble_eq_true rfl) ⟨Nat.zero_le _, Nat.zero_le _⟩ (fun r2 S1 h => ?_)
  refine jIf_eq C 8 15 (by decide +kernel : decode cX5_setWanted 5 = .ok (.ifCond .eq 10, 3)) rfl rfl (fun c3 => ?_) (fun c3 => ?_)
  · have h := it1 h c3
    exact jRetV C (by decide +kernel : decode cX5_setWanted 15 = .ok (.return_, 1)) (Nat.le_refl _) (Nat.le_refl _) ⟨rfl, h⟩
  · have h := it2 h c3
    refine jB C [(.aload_n 0, 1, 0)] 9 [(0, .ref (b + v0)), (1, .int v1), (2, .int v2)] [.ref (b + v0)] (by decide +kernel) rfl rfl ?_
    obtain ⟨a4, e_a4, h⟩ := h
    refine jGetR C 12 (by decide +kernel : decode cX5_setWanted 9 = .ok (.getfield 18, 3)) rfl t_v0 kX5 3 (by decide) rfl rfl (by decide) wd_44 e_a4 rfl (fun t_a4 => ?_)
    refine jB C [(.iload_n 1, 1, 0), (.iload_n 2, 1, 0)] 14 [(0, .ref (b + v0)), (1, .int v1), (2, .int v2)] [.int v2, .int v1, .ref (b + a4)] (by decide +kernel) rfl rfl ?_
    obtain ⟨y5, h⟩ := h
    refine jIast C 15 (by decide +kernel : decode cX5_setWanted 14 = .ok (.iastore, 1)) rfl hE t_a4 y5 ?_
    refine jTopS (fun S6 e_S6 => ?_)
    have h := h S6 e_S6
    exact jRetV C (by decide +kernel : decode cX5_setWanted 15 = .ok (.return_, 1)) (Nat.le_refl _) (Nat.le_refl _) ⟨rfl, h⟩
theorem ok_X5_setWanted {G : Gm} {v0 : Nat} {v1 : Int32} {v2 : Int32} {S : St} {Q : St → Prop}  (t_v0 : ok G 4 v0) (h : f_X5_setWanted G v0 v1 v2 Q S) : MT yX5_setWanted cX5_setWanted 3 none rm_X5_setWanted 0 0 (fun b => [.ref (b + v0), .int v1, .int v2]) G S (QV (fun G1 S1 => G1 = G ∧ Q S1)) := MT.ofJ (by decide +kernel) (fun b => [(0, .ref (b + v0)), (1, .int v1), (2, .int v2)]) (fun b => rfl) (fun b => Nat.le_of_ble_eq_true rfl) (fun l b D cy p e s m below meth c C hE hn => j_X5_setWanted C hE t_v0 h)
theorem hd_X5_setWanted : yX5_setWanted.cls ≠ "java/lang/invoke/MethodHandle" ∧ yX5_setWanted.cls ≠ "java/lang/invoke/VarHandle" ∧ (parseMethodDescriptor yX5_setWanted.desc).map (fun d => d.parameters.length) = some 2 := by decide +kernel
abbrev rm_X5_addPerson : Room := { frames := 3, cells := 0, slots := 0, locals := 75 }
set_option maxHeartbeats 4000000 in
set_option maxRecDepth 100000 in
theorem j_X5_addPerson_28_n {p : Program} {l : Launch} {e : Env} {s : State} {m : MethodId} {args : Array Value} {below : List Frame} {meth : Method} {c : Code} {b : Nat} {D : va_G} {cy : Nat → ClassId} {G : Gm} {v0 : Nat} {v1 : Int32} {Q : Int32 → St → Prop} (C : CX p s m args meth c b D cy cX5_addPerson RX5 3 (some .int)) (hE : s.heap.size + 0 ≤ b + G.2.2) (t_v0 : ok G 4 v0) : ∀ k (v2 : Int32) S, f_X5_addPerson_28_n G v0 v1 Q k v2 S → J p l e rm_X5_addPerson s m args below meth c b D cy 3 (zI b D cy below args s G Q) 0 0 G S 28 [(0, .ref (b + v0)), (1, .int v1), (2, .int v2)] [] := by
  intro k
  induction k with
  | zero => intro v2 S h; exact h.elim
  | succ k ih =>
    intro v2 S h
    unfold f_X5_addPerson_28_n at h
    refine jB C [(.iload_n 2, 1, 0), (.iconst 4, 1, 4)] 30 [(0, .ref (b + v0)), (1, .int v1), (2, .int v2)] [.int 4, .int v2] (by decide +kernel) rfl rfl ?_
    refine jIcmp_ge C 33 46 (by decide +kernel : decode cX5_addPerson 30 = .ok (.if_icmp .ge 16, 3)) rfl rfl (fun c1 => ?_) (fun c1 => ?_)
    · have h := it1 h c1
      refine jB C [(.aload_n 0, 1, 0), (.iload_n 1, 1, 0), (.iconst 0, 1, 0)] 49 [(0, .ref (b + v0)), (1, .int v1), (2, .int v2)] [.int 0, .int v1, .ref (b + v0)] (by decide +kernel) rfl rfl ?_
      refine jcV_V C 52 (rest := []) (ok_X5_setGlass t_v0 h) (by decide +kernel : decode cX5_addPerson 49 = .ok (.invokevirtual 59, 3)) rfl wd_379 wd_381 wp_5 wd_2 wd_382 ⟨rfl, rfl⟩ hd_X5_setGlass ⟨Nat.le_of_ble_eq_true rfl, Nat.le_of_ble_eq_true rfl⟩ t_v0 kX5 (by decide) rfl rfl rfl (Nat.le_of_ble_eq_true rfl) ⟨Nat.zero_le _, Nat.zero_le _⟩ (fun S2 h => ?_)
      refine jB C [(.aload_n 0, 1, 0), (.iload_n 1, 1, 0), (.iconst 0, 1, 0)] 55 [(0, .ref (b + v0)), (1, .int v1), (2, .int v2)] [.int 0, .int v1, .ref (b + v0)] (by decide +kernel) rfl rfl ?_
      refine jcV_V C 58 (rest := []) (ok_X5_setWanted t_v0 h) (by decide +kernel : decode cX5_addPerson 55 = .ok (.invokevirtual 63, 3)) rfl wd_383 wd_385 wp_6 wd_2 wd_386 ⟨rfl, rfl⟩ hd_X5_setWanted ⟨Nat.le_of_ble_eq_true rfl, Nat.le_of_ble_eq_true rfl⟩ t_v0 kX5 (by decide) rfl rfl rfl (Nat.le_of_ble_eq_true rfl) ⟨Nat.zero_le _, Nat.zero_le _⟩ (fun S3 h => ?_)
      refine jB C [(.iload_n 1, 1, 0)] 59 [(0, .ref (b + v0)), (1, .int v1), (2, .int v2)] [.int v1] (by decide +kernel) rfl rfl ?_
      exact jRetI C (by decide +kernel : decode cX5_addPerson 59 = .ok (.ireturn, 1)) (Nat.le_refl _) (Nat.le_refl _) ⟨rfl, h⟩
    · have h := it2 h c1
      refine jB C [(.aload_n 0, 1, 0), (.iload_n 1, 1, 0), (.iload_n 2, 1, 0), (.iconst 0, 1, 0)] 37 [(0, .ref (b + v0)), (1, .int v1), (2, .int v2)] [.int 0, .int v2, .int v1, .ref (b + v0)] (by decide +kernel) rfl rfl ?_
      refine jcV_V C 40 (rest := []) (ok_X5_setSin t_v0 h) (by decide +kernel : decode cX5_addPerson 37 = .ok (.invokevirtual 55, 3)) rfl wd_367 wd_369 wp_3 wd_2 wd_370 ⟨rfl, rfl⟩ hd_X5_setSin ⟨Nat.le_of_ble_eq_true rfl, Nat.le_of_ble_eq_true rfl⟩ t_v0 kX5 (by decide) rfl rfl rfl (Nat.le_of_ble_eq_true rfl) ⟨Nat.zero_le _, Nat.zero_le _⟩ (fun S4 h => ?_)
      refine jB C [(.iinc 2 1, 3, 1)] 43 [(2, .int (v2 + 1)), (0, .ref (b + v0)), (1, .int v1)] [] (by decide +kernel) rfl rfl ?_
      refine jGoto C 28 (by decide +kernel : decode cX5_addPerson 43 = .ok (.goto (-15), 3)) rfl ?_
      refine jSub [1, 2, 0] rfl ?_
      exact ih (v2 + 1) S4 h
theorem j_X5_addPerson_28 {p : Program} {l : Launch} {e : Env} {s : State} {m : MethodId} {args : Array Value} {below : List Frame} {meth : Method} {c : Code} {b : Nat} {D : va_G} {cy : Nat → ClassId} {G : Gm} {v0 : Nat} {v1 : Int32} {v2 : Int32} {S : St} {Q : Int32 → St → Prop} (C : CX p s m args meth c b D cy cX5_addPerson RX5 3 (some .int)) (hE : s.heap.size + 0 ≤ b + G.2.2) (t_v0 : ok G 4 v0) (h : f_X5_addPerson_28 G v0 v1 Q v2 S) : J p l e rm_X5_addPerson s m args below meth c b D cy 3 (zI b D cy below args s G Q) 0 0 G S 28 [(0, .ref (b + v0)), (1, .int v1), (2, .int v2)] [] := by
  obtain ⟨k, h⟩ := h
  exact j_X5_addPerson_28_n C hE t_v0 k v2 S h
set_option maxHeartbeats 4000000 in
set_option maxRecDepth 100000 in
theorem j_X5_addPerson {p : Program} {l : Launch} {e : Env} {s : State} {m : MethodId} {args : Array Value} {below : List Frame} {meth : Method} {c : Code} {b : Nat} {D : va_G} {cy : Nat → ClassId} {G : Gm} {v0 : Nat} {S : St} {Q : Int32 → St → Prop} (C : CX p s m args meth c b D cy cX5_addPerson RX5 3 (some .int)) (hE : s.heap.size + 0 ≤ b + G.2.2) (t_v0 : ok G 4 v0) (h : f_X5_addPerson G v0 Q S) : J p l e rm_X5_addPerson s m args below meth c b D cy 3 (zI b D cy below args s G Q) 0 0 G S 0 [(0, .ref (b + v0))] [] := by
  unfold f_X5_addPerson at h
  refine jB C [(.aload_n 0, 1, 0)] 1 [(0, .ref (b + v0))] [.ref (b + v0)] (by decide +kernel) rfl rfl ?_
  refine jGetI C 4 (by decide +kernel : decode cX5_addPerson 1 = .ok (.getfield 40, 3)) rfl t_v0 kX5 0 (by decide) rfl rfl (by decide) wd_36 ?_
  refine jB C [(.bipush 6, 2, 6)] 6 [(0, .ref (b + v0))] [.int 6, .int (S.1 v0 0)] (by decide +kernel) rfl rfl ?_
  refine jIcmp_lt C 9 11 (by decide +kernel : decode cX5_addPerson 6 = .ok (.if_icmp .lt 5, 3)) rfl rfl (fun c1 => ?_) (fun c1 => ?_)
  · have h := it1 h c1
    refine jB C [(.aload_n 0, 1, 0)] 12 [(0, .ref (b + v0))] [.ref (b + v0)] (by decide +kernel) rfl rfl ?_
    refine jGetI C 15 (by decide +kernel : decode cX5_addPerson 12 = .ok (.getfield 40, 3)) rfl t_v0 kX5 0 (by decide) rfl rfl (by decide) wd_36 ?_
    refine jTopI (fun x2 e_x2 => ?_)
    have h := h x2 e_x2
    refine jB C [(.istore_n 1, 1, 0), (.aload_n 0, 1, 0), (.dup, 1, 0)] 18 [(1, .int x2), (0, .ref (b + v0))] [.ref (b + v0), .ref (b + v0)] (by decide +kernel) rfl rfl ?_
    refine jGetI C 21 (by decide +kernel : decode cX5_addPerson 18 = .ok (.getfield 40, 3)) rfl t_v0 kX5 0 (by decide) rfl rfl (by decide) wd_36 ?_
    refine jB C [(.iconst 1, 1, 1), (.iadd, 1, 0)] 23 [(1, .int x2), (0, .ref (b + v0))] [.int ((S.1 v0 0) + 1), .ref (b + v0)] (by decide +kernel) rfl rfl ?_
    refine jPutI C 26 (by decide +kernel : decode cX5_addPerson 23 = .ok (.putfield 40, 3)) rfl hE t_v0 kX5 0 (by decide) rfl rfl (by decide) rfl wd_36 rfl rfl rfl ?_
    refine jTopS (fun S3 e_S3 => ?_)
    have h := h S3 e_S3
    refine jB C [(.iconst 0, 1, 0), (.istore_n 2, 1, 0)] 28 [(2, .int 0), (1, .int x2), (0, .ref (b + v0))] [] (by decide +kernel) rfl rfl ?_
    refine jSub [2, 1, 0] rfl ?_
    exact j_X5_addPerson_28 C hE t_v0 h
  · have h := it2 h c1
    refine jB C [(.iconst (-1), 1, (-1))] 10 [(0, .ref (b + v0))] [.int (-1)] (by decide +kernel) rfl rfl ?_
    exact jRetI C (by decide +kernel : decode cX5_addPerson 10 = .ok (.ireturn, 1)) (Nat.le_refl _) (Nat.le_refl _) ⟨rfl, h⟩
theorem ok_X5_addPerson {G : Gm} {v0 : Nat} {S : St} {Q : Int32 → St → Prop}  (t_v0 : ok G 4 v0) (h : f_X5_addPerson G v0 Q S) : MT yX5_addPerson cX5_addPerson 3 (some .int) rm_X5_addPerson 0 0 (fun b => [.ref (b + v0)]) G S (QI (fun r G1 S1 => G1 = G ∧ Q r S1)) := MT.ofJ (by decide +kernel) (fun b => [(0, .ref (b + v0))]) (fun b => rfl) (fun b => Nat.le_of_ble_eq_true rfl) (fun l b D cy p e s m below meth c C hE hn => j_X5_addPerson C hE t_v0 h)
theorem hd_X5_addPerson : yX5_addPerson.cls ≠ "java/lang/invoke/MethodHandle" ∧ yX5_addPerson.cls ≠ "java/lang/invoke/VarHandle" ∧ (parseMethodDescriptor yX5_addPerson.desc).map (fun d => d.parameters.length) = some 0 := by decide +kernel
abbrev rm_X6_byteAt : Room := { frames := 0, cells := 0, slots := 0, locals := 0 }
set_option maxHeartbeats 4000000 in
set_option maxRecDepth 100000 in
theorem j_X6_byteAt {p : Program} {l : Launch} {e : Env} {s : State} {m : MethodId} {args : Array Value} {below : List Frame} {meth : Method} {c : Code} {b : Nat} {D : va_G} {cy : Nat → ClassId} {G : Gm} {v0 : Nat} {v1 : Int32} {S : St} {Q : Int32 → St → Prop} (C : CX p s m args meth c b D cy cX6_byteAt RX6 2 (some .int)) (hE : s.heap.size + 0 ≤ b + G.2.2) (t_v0 : ok G 5 v0) (h : f_X6_byteAt G v0 v1 Q S) : J p l e rm_X6_byteAt s m args below meth c b D cy 2 (zI b D cy below args s G Q) 0 0 G S 0 [(0, .ref (b + v0)), (1, .int v1)] [] := by
  unfold f_X6_byteAt at h
  refine jB C [(.iload_n 1, 1, 0)] 1 [(0, .ref (b + v0)), (1, .int v1)] [.int v1] (by decide +kernel) rfl rfl ?_
  refine jIf_lt C 4 28 (by decide +kernel : decode cX6_byteAt 1 = .ok (.ifCond .lt 27, 3)) rfl rfl (fun c1 => ?_) (fun c1 => ?_)
  · have h := it1 h c1
    refine jB C [(.iconst (-1), 1, (-1))] 29 [(0, .ref (b + v0)), (1, .int v1)] [.int (-1)] (by decide +kernel) rfl rfl ?_
    exact jRetI C (by decide +kernel : decode cX6_byteAt 29 = .ok (.ireturn, 1)) (Nat.le_refl _) (Nat.le_refl _) ⟨rfl, h⟩
  · have h := it2 h c1
    refine jB C [(.iload_n 1, 1, 0), (.aload_n 0, 1, 0)] 6 [(0, .ref (b + v0)), (1, .int v1)] [.ref (b + v0), .int v1] (by decide +kernel) rfl rfl ?_
    refine jGetI C 9 (by decide +kernel : decode cX6_byteAt 6 = .ok (.getfield 37, 3)) rfl t_v0 kX6 1 (by decide) rfl rfl (by decide) wd_275 ?_
    refine jIcmp_ge C 12 28 (by decide +kernel : decode cX6_byteAt 9 = .ok (.if_icmp .ge 19, 3)) rfl rfl (fun c2 => ?_) (fun c2 => ?_)
    · have h := it1 h c2
      refine jB C [(.iconst (-1), 1, (-1))] 29 [(0, .ref (b + v0)), (1, .int v1)] [.int (-1)] (by decide +kernel) rfl rfl ?_
      exact jRetI C (by decide +kernel : decode cX6_byteAt 29 = .ok (.ireturn, 1)) (Nat.le_refl _) (Nat.le_refl _) ⟨rfl, h⟩
    · have h := it2 h c2
      refine jB C [(.iload_n 1, 1, 0), (.sipush 400, 3, 400)] 16 [(0, .ref (b + v0)), (1, .int v1)] [.int 400, .int v1] (by decide +kernel) rfl rfl ?_
      refine jIcmp_ge C 19 28 (by decide +kernel : decode cX6_byteAt 16 = .ok (.if_icmp .ge 12, 3)) rfl rfl (fun c3 => ?_) (fun c3 => ?_)
      · have h := it1 h c3
        refine jB C [(.iconst (-1), 1, (-1))] 29 [(0, .ref (b + v0)), (1, .int v1)] [.int (-1)] (by decide +kernel) rfl rfl ?_
        exact jRetI C (by decide +kernel : decode cX6_byteAt 29 = .ok (.ireturn, 1)) (Nat.le_refl _) (Nat.le_refl _) ⟨rfl, h⟩
      · have h := it2 h c3
        refine jB C [(.aload_n 0, 1, 0)] 20 [(0, .ref (b + v0)), (1, .int v1)] [.ref (b + v0)] (by decide +kernel) rfl rfl ?_
        obtain ⟨a4, e_a4, h⟩ := h
        refine jGetR C 23 (by decide +kernel : decode cX6_byteAt 20 = .ok (.getfield 9, 3)) rfl t_v0 kX6 0 (by decide) rfl rfl (by decide) wd_274 e_a4 rfl (fun t_a4 => ?_)
        refine jB C [(.iload_n 1, 1, 0)] 24 [(0, .ref (b + v0)), (1, .int v1)] [.int v1, .ref (b + a4)] (by decide +kernel) rfl rfl ?_
        obtain ⟨y5, h⟩ := h
        refine jIald C 25 (by decide +kernel : decode cX6_byteAt 24 = .ok (.iaload, 1)) rfl t_a4 y5 ?_
        refine jGoto C 29 (by decide +kernel : decode cX6_byteAt 25 = .ok (.goto 4, 3)) rfl ?_
        exact jRetI C (by decide +kernel : decode cX6_byteAt 29 = .ok (.ireturn, 1)) (Nat.le_refl _) (Nat.le_refl _) ⟨rfl, h⟩
theorem ok_X6_byteAt {G : Gm} {v0 : Nat} {v1 : Int32} {S : St} {Q : Int32 → St → Prop}  (t_v0 : ok G 5 v0) (h : f_X6_byteAt G v0 v1 Q S) : MT yX6_byteAt cX6_byteAt 2 (some .int) rm_X6_byteAt 0 0 (fun b => [.ref (b + v0), .int v1]) G S (QI (fun r G1 S1 => G1 = G ∧ Q r S1)) := MT.ofJ (by decide +kernel) (fun b => [(0, .ref (b + v0)), (1, .int v1)]) (fun b => rfl) (fun b => Nat.le_of_ble_eq_true rfl) (fun l b D cy p e s m below meth c C hE hn => j_X6_byteAt C hE t_v0 h)
theorem hd_X6_byteAt : yX6_byteAt.cls ≠ "java/lang/invoke/MethodHandle" ∧ yX6_byteAt.cls ≠ "java/lang/invoke/VarHandle" ∧ (parseMethodDescriptor yX6_byteAt.desc).map (fun d => d.parameters.length) = some 1 := by decide +kernel
abbrev rm_X10_addSinner : Room := { frames := 4, cells := 0, slots := 0, locals := 97 }
set_option maxHeartbeats 4000000 in
set_option maxRecDepth 100000 in
theorem j_X10_addSinner_10_n {p : Program} {l : Launch} {e : Env} {s : State} {m : MethodId} {args : Array Value} {below : List Frame} {meth : Method} {c : Code} {b : Nat} {D : va_G} {cy : Nat → ClassId} {G : Gm} {v0 : Nat} {v1 : Int32} {v2 : Int32} {Q : St → Prop} (C : CX p s m args meth c b D cy cX10_addSinner RX10 4 none) (hE : s.heap.size + 0 ≤ b + G.2.2) (t_v0 : ok G 9 v0) : ∀ k (v3 : Int32) S, f_X10_addSinner_10_n G v0 v1 v2 Q k v3 S → J p l e rm_X10_addSinner s m args below meth c b D cy 4 (zV b D cy below args s G Q) 0 0 G S 10 [(0, .ref (b + v0)), (1, .int v1), (2, .int v2), (3, .int v3)] [] := by
  intro k
  induction k with
  | zero => intro v3 S h; exact h.elim
  | succ k ih =>
    intro v3 S h
    unfold f_X10_addSinner_10_n at h
    refine jB C [(.iload_n 3, 1, 0), (.iconst 4, 1, 4)] 12 [(0, .ref (b + v0)), (1, .int v1), (2, .int v2), (3, .int v3)] [.int 4, .int v3] (by decide +kernel) rfl rfl ?_
    refine jIcmp_ge C 15 40 (by decide +kernel : decode cX10_addSinner 12 = .ok (.if_icmp .ge 28, 3)) rfl rfl (fun c1 => ?_) (fun c1 => ?_)
    · have h := it1 h c1
      exact jRetV C (by decide +kernel : decode cX10_addSinner 40 = .ok (.return_, 1)) (Nat.le_refl _) (Nat.le_refl _) ⟨rfl, h⟩
    · have h := it2 h c1
      refine jB C [(.aload_n 0, 1, 0)] 16 [(0, .ref (b + v0)), (1, .int v1), (2, .int v2), (3, .int v3)] [.ref (b + v0)] (by decide +kernel) rfl rfl ?_
      obtain ⟨a2, e_a2, h⟩ := h
      refine jGetR C 19 (by decide +kernel : decode cX10_addSinner 16 = .ok (.getfield 14, 3)) rfl t_v0 kX10 0 (by decide) rfl rfl (by decide) wd_311 e_a2 rfl (fun t_a2 => ?_)
      refine jB C [(.iload_n 2, 1, 0), (.iload_n 3, 1, 0), (.aload_n 0, 1, 0)] 22 [(0, .ref (b + v0)), (1, .int v1), (2, .int v2), (3, .int v3)] [.ref (b + v0), .int v3, .int v2, .ref (b + a2)] (by decide +kernel) rfl rfl ?_
      obtain ⟨a3, e_a3, h⟩ := h
      refine jGetR C 25 (by decide +kernel : decode cX10_addSinner 22 = .ok (.getfield 63, 3)) rfl t_v0 kX10 8 (by decide) rfl rfl (by decide) wd_319 e_a3 rfl (fun t_a3 => ?_)
      refine jB C [(.iload_n 1, 1, 0), (.iload_n 3, 1, 0), (.iadd, 1, 0)] 28 [(0, .ref (b + v0)), (1, .int v1), (2, .int v2), (3, .int v3)] [.int (v1 + v3), .ref (b + a3), .int v3, .int v2, .ref (b + a2)] (by decide +kernel) rfl rfl ?_
      refine jcVN_I C 31 (rest := [.int v3, .int v2, .ref (b + a2)]) (ok_X6_byteAt t_a3 h) (by decide +kernel : decode cX10_addSinner 28 = .ok (.invokevirtual 183, 3)) rfl wn_577 wd_571 wp_31 wd_9 wd_572 ⟨rfl, rfl⟩ hd_X6_byteAt ⟨Nat.le_of_ble_eq_true rfl, Nat.le_of_ble_eq_true rfl⟩ t_a3 kX6 (by decide) rfl rfl rfl (Nat.le_of_ble_eq_true rfl) ⟨Nat.zero_le _, Nat.zero_le _⟩ (fun r5 S4 h => ?_)
      refine jcVN_V C 34 (rest := []) (ok_X5_setSin t_a2 h) (by decide +kernel : decode cX10_addSinner 31 = .ok (.invokevirtual 186, 3)) rfl wn_578 wd_369 wp_3 wd_2 wd_370 ⟨rfl, rfl⟩ hd_X5_setSin ⟨Nat.le_of_ble_eq_true rfl, Nat.le_of_ble_eq_true rfl⟩ t_a2 kX5 (by decide) rfl rfl rfl (Nat.le_of_ble_eq_true rfl) ⟨Nat.zero_le _, Nat.zero_le _⟩ (fun S6 h => ?_)
      refine jB C [(.iinc 3 1, 3, 1)] 37 [(3, .int (v3 + 1)), (0, .ref (b + v0)), (1, .int v1), (2, .int v2)] [] (by decide +kernel) rfl rfl ?_
      refine jGoto C 10 (by decide +kernel : decode cX10_addSinner 37 = .ok (.goto (-27), 3)) rfl ?_
      refine jSub [1, 2, 3, 0] rfl ?_
      exact ih (v3 + 1) S6 h
theorem j_X10_addSinner_10 {p : Program} {l : Launch} {e : Env} {s : State} {m : MethodId} {args : Array Value} {below : List Frame} {meth : Method} {c : Code} {b : Nat} {D : va_G} {cy : Nat → ClassId} {G : Gm} {v0 : Nat} {v1 : Int32} {v2 : Int32} {v3 : Int32} {S : St} {Q : St → Prop} (C : CX p s m args meth c b D cy cX10_addSinner RX10 4 none) (hE : s.heap.size + 0 ≤ b + G.2.2) (t_v0 : ok G 9 v0) (h : f_X10_addSinner_10 G v0 v1 v2 Q v3 S) : J p l e rm_X10_addSinner s m args below meth c b D cy 4 (zV b D cy below args s G Q) 0 0 G S 10 [(0, .ref (b + v0)), (1, .int v1), (2, .int v2), (3, .int v3)] [] := by
  obtain ⟨k, h⟩ := h
  exact j_X10_addSinner_10_n C hE t_v0 k v3 S h
set_option maxHeartbeats 4000000 in
set_option maxRecDepth 100000 in
theorem j_X10_addSinner {p : Program} {l : Launch} {e : Env} {s : State} {m : MethodId} {args : Array Value} {below : List Frame} {meth : Method} {c : Code} {b : Nat} {D : va_G} {cy : Nat → ClassId} {G : Gm} {v0 : Nat} {v1 : Int32} {S : St} {Q : St → Prop} (C : CX p s m args meth c b D cy cX10_addSinner RX10 4 none) (hE : s.heap.size + 0 ≤ b + G.2.2) (t_v0 : ok G 9 v0) (h : f_X10_addSinner G v0 v1 Q S) : J p l e rm_X10_addSinner s m args below meth c b D cy 4 (zV b D cy below args s G Q) 0 0 G S 0 [(0, .ref (b + v0)), (1, .int v1)] [] := by
  unfold f_X10_addSinner at h
  refine jB C [(.aload_n 0, 1, 0)] 1 [(0, .ref (b + v0)), (1, .int v1)] [.ref (b + v0)] (by decide +kernel) rfl rfl ?_
  obtain ⟨a1, e_a1, h⟩ := h
  refine jGetR C 4 (by decide +kernel : decode cX10_addSinner 1 = .ok (.getfield 14, 3)) rfl t_v0 kX10 0 (by decide) rfl rfl (by decide) wd_311 e_a1 rfl (fun t_a1 => ?_)
  refine jcVN_I C 7 (rest := []) (ok_X5_addPerson t_a1 h) (by decide +kernel : decode cX10_addSinner 4 = .ok (.invokevirtual 85, 3)) rfl wn_363 wd_365 wp_2 wd_2 wd_366 ⟨rfl, rfl⟩ hd_X5_addPerson ⟨Nat.le_of_ble_eq_true rfl, Nat.le_of_ble_eq_true rfl⟩ t_a1 kX5 (by decide) rfl rfl rfl (Nat.le_of_ble_eq_true rfl) ⟨Nat.zero_le _, Nat.zero_le _⟩ (fun r3 S2 h => ?_)
  refine jB C [(.istore_n 2, 1, 0), (.iconst 0, 1, 0), (.istore_n 3, 1, 0)] 10 [(3, .int 0), (2, .int r3), (0, .ref (b + v0)), (1, .int v1)] [] (by decide +kernel) rfl rfl ?_
  refine jSub [2, 3, 1, 0] rfl ?_
  exact j_X10_addSinner_10 C hE t_v0 h
theorem ok_X10_addSinner {G : Gm} {v0 : Nat} {v1 : Int32} {S : St} {Q : St → Prop}  (t_v0 : ok G 9 v0) (h : f_X10_addSinner G v0 v1 Q S) : MT yX10_addSinner cX10_addSinner 4 none rm_X10_addSinner 0 0 (fun b => [.ref (b + v0), .int v1]) G S (QV (fun G1 S1 => G1 = G ∧ Q S1)) := MT.ofJ (by decide +kernel) (fun b => [(0, .ref (b + v0)), (1, .int v1)]) (fun b => rfl) (fun b => Nat.le_of_ble_eq_true rfl) (fun l b D cy p e s m below meth c C hE hn => j_X10_addSinner C hE t_v0 h)
theorem hd_X10_addSinner : yX10_addSinner.cls ≠ "java/lang/invoke/MethodHandle" ∧ yX10_addSinner.cls ≠ "java/lang/invoke/VarHandle" ∧ (parseMethodDescriptor yX10_addSinner.desc).map (fun d => d.parameters.length) = some 1 := by decide +kernel
abbrev rm_X10_alike : Room := { frames := 3, cells := 0, slots := 0, locals := 68 }
set_option maxHeartbeats 4000000 in
set_option maxRecDepth 100000 in
theorem j_X10_alike_27_n {p : Program} {l : Launch} {e : Env} {s : State} {m : MethodId} {args : Array Value} {below : List Frame} {meth : Method} {c : Code} {b : Nat} {D : va_G} {cy : Nat → ClassId} {G : Gm} {v0 : Nat} {v2 : Int32} {Q : Int32 → St → Prop} (C : CX p s m args meth c b D cy cX10_alike RX10 5 (some .int)) (hE : s.heap.size + 0 ≤ b + G.2.2) (t_v0 : ok G 9 v0) : ∀ k (v3 : Int32) (v4 : Int32) S, f_X10_alike_27_n G v0 v2 Q k v3 v4 S → J p l e rm_X10_alike s m args below meth c b D cy 5 (zI b D cy below args s G Q) 0 0 G S 27 [(0, .ref (b + v0)), (2, .int v2), (3, .int v3), (4, .int v4)] [] := by
  intro k
  induction k with
  | zero => intro v3 v4 S h; exact h.elim
  | succ k ih =>
    intro v3 v4 S h
    unfold f_X10_alike_27_n at h
    refine jB C [(.iload 4, 2, 0), (.aload_n 0, 1, 0)] 30 [(0, .ref (b + v0)), (2, .int v2), (3, .int v3), (4, .int v4)] [.ref (b + v0), .int v4] (by decide +kernel) rfl rfl ?_
    obtain ⟨a1, e_a1, h⟩ := h
    refine jGetR C 33 (by decide +kernel : decode cX10_alike 30 = .ok (.getfield 14, 3)) rfl t_v0 kX10 0 (by decide) rfl rfl (by decide) wd_311 e_a1 rfl (fun t_a1 => ?_)
    refine jGetIN C 36 (by decide +kernel : decode cX10_alike 33 = .ok (.getfield 75, 3)) rfl t_a1 kX5 0 (by decide) rfl rfl (by decide) wn_37 ?_
    refine jIcmp_ge C 39 61 (by decide +kernel : decode cX10_alike 36 = .ok (.if_icmp .ge 25, 3)) rfl rfl (fun c2 => ?_) (fun c2 => ?_)
    · have h := it1 h c2
      refine jB C [(.iload_n 3, 1, 0)] 62 [(0, .ref (b + v0)), (2, .int v2), (3, .int v3), (4, .int v4)] [.int v3] (by decide +kernel) rfl rfl ?_
      exact jRetI C (by decide +kernel : decode cX10_alike 62 = .ok (.ireturn, 1)) (Nat.le_refl _) (Nat.le_refl _) ⟨rfl, h⟩
    · have h := it2 h c2
      refine jB C [(.aload_n 0, 1, 0)] 40 [(0, .ref (b + v0)), (2, .int v2), (3, .int v3), (4, .int v4)] [.ref (b + v0)] (by decide +kernel) rfl rfl ?_
      obtain ⟨a3, e_a3, h⟩ := h
      refine jGetR C 43 (by decide +kernel : decode cX10_alike 40 = .ok (.getfield 14, 3)) rfl t_v0 kX10 0 (by decide) rfl rfl (by decide) wd_311 e_a3 rfl (fun t_a3 => ?_)
      refine jB C [(.iload 4, 2, 0)] 45 [(0, .ref (b + v0)), (2, .int v2), (3, .int v3), (4, .int v4)] [.int v4, .ref (b + a3)] (by decide +kernel) rfl rfl ?_
      refine jcVN_I C 48 (rest := []) (ok_X5_sightOf t_a3 h) (by decide +kernel : decode cX10_alike 45 = .ok (.invokevirtual 111, 3)) rfl wn_411 wd_413 wp_10 wd_2 wd_414 ⟨rfl, rfl⟩ hd_X5_sightOf ⟨Nat.le_of_ble_eq_true rfl, Nat.le_of_ble_eq_true rfl⟩ t_a3 kX5 (by decide) rfl rfl rfl (Nat.le_of_ble_eq_true rfl) ⟨Nat.zero_le _, Nat.zero_le _⟩ (fun r5 S4 h => ?_)
      refine jB C [(.iload_n 2, 1, 0)] 49 [(0, .ref (b + v0)), (2, .int v2), (3, .int v3), (4, .int v4)] [.int v2, .int r5] (by decide +kernel) rfl rfl ?_
      refine jIcmp_ne C 52 55 (by decide +kernel : decode cX10_alike 49 = .ok (.if_icmp .ne 6, 3)) rfl rfl (fun c6 => ?_) (fun c6 => ?_)
      · have h := it2 h c6
        refine jB C [(.iinc 4 1, 3, 1)] 58 [(4, .int (v4 + 1)), (0, .ref (b + v0)), (2, .int v2), (3, .int v3)] [] (by decide +kernel) rfl rfl ?_
        refine jGoto C 27 (by decide +kernel : decode cX10_alike 58 = .ok (.goto (-31), 3)) rfl ?_
        refine jSub [1, 2, 3, 0] rfl ?_
        exact ih v3 (v4 + 1) S4 h
      · have h := it1 h c6
        refine jB C [(.iinc 3 1, 3, 1), (.iinc 4 1, 3, 1)] 58 [(4, .int (v4 + 1)), (3, .int (v3 + 1)), (0, .ref (b + v0)), (2, .int v2)] [] (by decide +kernel) rfl rfl ?_
        refine jGoto C 27 (by decide +kernel : decode cX10_alike 58 = .ok (.goto (-31), 3)) rfl ?_
        refine jSub [2, 3, 1, 0] rfl ?_
        exact ih (v3 + 1) (v4 + 1) S4 h
theorem j_X10_alike_27 {p : Program} {l : Launch} {e : Env} {s : State} {m : MethodId} {args : Array Value} {below : List Frame} {meth : Method} {c : Code} {b : Nat} {D : va_G} {cy : Nat → ClassId} {G : Gm} {v0 : Nat} {v2 : Int32} {v3 : Int32} {v4 : Int32} {S : St} {Q : Int32 → St → Prop} (C : CX p s m args meth c b D cy cX10_alike RX10 5 (some .int)) (hE : s.heap.size + 0 ≤ b + G.2.2) (t_v0 : ok G 9 v0) (h : f_X10_alike_27 G v0 v2 Q v3 v4 S) : J p l e rm_X10_alike s m args below meth c b D cy 5 (zI b D cy below args s G Q) 0 0 G S 27 [(0, .ref (b + v0)), (2, .int v2), (3, .int v3), (4, .int v4)] [] := by
  obtain ⟨k, h⟩ := h
  exact j_X10_alike_27_n C hE t_v0 k v3 v4 S h
set_option maxHeartbeats 4000000 in
set_option maxRecDepth 100000 in
theorem j_X10_alike {p : Program} {l : Launch} {e : Env} {s : State} {m : MethodId} {args : Array Value} {below : List Frame} {meth : Method} {c : Code} {b : Nat} {D : va_G} {cy : Nat → ClassId} {G : Gm} {v0 : Nat} {v1 : Int32} {S : St} {Q : Int32 → St → Prop} (C : CX p s m args meth c b D cy cX10_alike RX10 5 (some .int)) (hE : s.heap.size + 0 ≤ b + G.2.2) (t_v0 : ok G 9 v0) (h : f_X10_alike G v0 v1 Q S) : J p l e rm_X10_alike s m args below meth c b D cy 5 (zI b D cy below args s G Q) 0 0 G S 0 [(0, .ref (b + v0)), (1, .int v1)] [] := by
  unfold f_X10_alike at h
  refine jB C [(.aload_n 0, 1, 0)] 1 [(0, .ref (b + v0)), (1, .int v1)] [.ref (b + v0)] (by decide +kernel) rfl rfl ?_
  obtain ⟨a1, e_a1, h⟩ := h
  refine jGetR C 4 (by decide +kernel : decode cX10_alike 1 = .ok (.getfield 14, 3)) rfl t_v0 kX10 0 (by decide) rfl rfl (by decide) wd_311 e_a1 rfl (fun t_a1 => ?_)
  refine jB C [(.iload_n 1, 1, 0)] 5 [(0, .ref (b + v0)), (1, .int v1)] [.int v1, .ref (b + a1)] (by decide +kernel) rfl rfl ?_
  refine jcVN_I C 8 (rest := []) (ok_X5_has t_a1 h) (by decide +kernel : decode cX10_alike 5 = .ok (.invokevirtual 92, 3)) rfl wn_395 wd_373 wp_4 wd_2 wd_374 ⟨rfl, rfl⟩ hd_X5_has ⟨Nat.le_of_ble_eq_true rfl, Nat.le_of_ble_eq_true rfl⟩ t_a1 kX5 (by decide) rfl rfl rfl (Nat.le_of_ble_eq_true rfl) ⟨Nat.zero_le _, Nat.zero_le _⟩ (fun r3 S2 h => ?_)
  refine jIf_ne C 11 13 (by decide +kernel : decode cX10_alike 8 = .ok (.ifCond .ne 5, 3)) rfl rfl (fun c4 => ?_) (fun c4 => ?_)
  · have h := it2 h c4
    refine jB C [(.aload_n 0, 1, 0)] 14 [(0, .ref (b + v0)), (1, .int v1)] [.ref (b + v0)] (by decide +kernel) rfl rfl ?_
    obtain ⟨a5, e_a5, h⟩ := h
    refine jGetR C 17 (by decide +kernel : decode cX10_alike 14 = .ok (.getfield 14, 3)) rfl t_v0 kX10 0 (by decide) rfl rfl (by decide) wd_311 e_a5 rfl (fun t_a5 => ?_)
    refine jB C [(.iload_n 1, 1, 0)] 18 [(0, .ref (b + v0)), (1, .int v1)] [.int v1, .ref (b + a5)] (by decide +kernel) rfl rfl ?_
    refine jcVN_I C 21 (rest := []) (ok_X5_sightOf t_a5 h) (by decide +kernel : decode cX10_alike 18 = .ok (.invokevirtual 111, 3)) rfl wn_411 wd_413 wp_10 wd_2 wd_414 ⟨rfl, rfl⟩ hd_X5_sightOf ⟨Nat.le_of_ble_eq_true rfl, Nat.le_of_ble_eq_true rfl⟩ t_a5 kX5 (by decide) rfl rfl rfl (Nat.le_of_ble_eq_true rfl) ⟨Nat.zero_le _, Nat.zero_le _⟩ (fun r7 S6 h => ?_)
    refine jB C [(.istore_n 2, 1, 0), (.iconst 0, 1, 0), (.istore_n 3, 1, 0), (.iconst 0, 1, 0), (.istore 4, 2, 0)] 27 [(4, .int 0), (3, .int 0), (2, .int r7), (0, .ref (b + v0)), (1, .int v1)] [] (by decide +kernel) rfl rfl ?_
    refine jSub [3, 2, 1, 0] rfl ?_
    exact j_X10_alike_27 C hE t_v0 h
  · have h := it1 h c4
    refine jB C [(.iconst (-1), 1, (-1))] 12 [(0, .ref (b + v0)), (1, .int v1)] [.int (-1)] (by decide +kernel) rfl rfl ?_
    exact jRetI C (by decide +kernel : decode cX10_alike 12 = .ok (.ireturn, 1)) (Nat.le_refl _) (Nat.le_refl _) ⟨rfl, h⟩
theorem ok_X10_alike {G : Gm} {v0 : Nat} {v1 : Int32} {S : St} {Q : Int32 → St → Prop}  (t_v0 : ok G 9 v0) (h : f_X10_alike G v0 v1 Q S) : MT yX10_alike cX10_alike 5 (some .int) rm_X10_alike 0 0 (fun b => [.ref (b + v0), .int v1]) G S (QI (fun r G1 S1 => G1 = G ∧ Q r S1)) := MT.ofJ (by decide +kernel) (fun b => [(0, .ref (b + v0)), (1, .int v1)]) (fun b => rfl) (fun b => Nat.le_of_ble_eq_true rfl) (fun l b D cy p e s m below meth c C hE hn => j_X10_alike C hE t_v0 h)
theorem hd_X10_alike : yX10_alike.cls ≠ "java/lang/invoke/MethodHandle" ∧ yX10_alike.cls ≠ "java/lang/invoke/VarHandle" ∧ (parseMethodDescriptor yX10_alike.desc).map (fun d => d.parameters.length) = some 1 := by decide +kernel
