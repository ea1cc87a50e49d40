abbrev rm_X10_cure : Room := { frames := 4, cells := 0, slots := 0, locals := 93 }
set_option maxHeartbeats 4000000 in
set_option maxRecDepth 100000 in
theorem j_X10_cure {p : Program} {l : Launch} {e : Env} {s : State} {m : MethodId} {args : Array Value} {below : List Frame} {meth : Method} {c : Code} {b : Nat} {D : va_G} {cy : Nat → ClassId} {G : Gm} {v0 : Nat} {v1 : Int32} {v2 : Int32} {S : St} {Q : Int32 → St → Prop} (C : CX p s m args meth c b D cy cX10_cure RX10 3 (some .int)) (hE : s.heap.size + 0 ≤ b + G.2.2) (t_v0 : ok G 9 v0) (h : f_X10_cure G v0 v1 v2 Q S) : J p l e rm_X10_cure s m args below meth c b D cy 3 (zI b D cy below args s G Q) 0 0 G S 0 [(0, .ref (b + v0)), (1, .int v1), (2, .int v2)] [] := by
  unfold f_X10_cure at h
  refine jB C [(.aload_n 0, 1, 0)] 1 [(0, .ref (b + v0)), (1, .int v1), (2, .int v2)] [.ref (b + v0)] (by decide +kernel) rfl rfl ?_
  obtain ⟨a1, e_a1, h⟩ := h
  refine jGetR C 4 (by decide +kernel : decode cX10_cure 1 = .ok (.getfield 14, 3)) rfl t_v0 kX10 0 (by decide) rfl rfl (by decide) wd_311 e_a1 rfl (fun t_a1 => ?_)
  refine jB C [(.iload_n 1, 1, 0)] 5 [(0, .ref (b + v0)), (1, .int v1), (2, .int v2)] [.int v1, .ref (b + a1)] (by decide +kernel) rfl rfl ?_
  refine jcVN_I C 8 (rest := []) (ok_X5_has t_a1 h) (by decide +kernel : decode cX10_cure 5 = .ok (.invokevirtual 92, 3)) rfl wn_395 wd_373 wp_4 wd_2 wd_374 ⟨rfl, rfl⟩ hd_X5_has ⟨Nat.le_of_ble_eq_true rfl, Nat.le_of_ble_eq_true rfl⟩ t_a1 kX5 (by decide) rfl rfl rfl (Nat.le_of_ble_eq_true rfl) ⟨Nat.zero_le _, Nat.zero_le _⟩ (fun r3 S2 h => ?_)
  refine jIf_eq C 11 32 (by decide +kernel : decode cX10_cure 8 = .ok (.ifCond .eq 24, 3)) rfl rfl (fun c4 => ?_) (fun c4 => ?_)
  · have h := it1 h c4
    refine jB C [(.iconst (-1), 1, (-1))] 33 [(0, .ref (b + v0)), (1, .int v1), (2, .int v2)] [.int (-1)] (by decide +kernel) rfl rfl ?_
    exact jRetI C (by decide +kernel : decode cX10_cure 33 = .ok (.ireturn, 1)) (Nat.le_refl _) (Nat.le_refl _) ⟨rfl, h⟩
  · have h := it2 h c4
    refine jB C [(.iload_n 2, 1, 0), (.iconst (-1), 1, (-1))] 13 [(0, .ref (b + v0)), (1, .int v1), (2, .int v2)] [.int (-1), .int v2] (by decide +kernel) rfl rfl ?_
    refine jIcmp_lt C 16 32 (by decide +kernel : decode cX10_cure 13 = .ok (.if_icmp .lt 19, 3)) rfl rfl (fun c5 => ?_) (fun c5 => ?_)
    · have h := it1 h c5
      refine jB C [(.iconst (-1), 1, (-1))] 33 [(0, .ref (b + v0)), (1, .int v1), (2, .int v2)] [.int (-1)] (by decide +kernel) rfl rfl ?_
      exact jRetI C (by decide +kernel : decode cX10_cure 33 = .ok (.ireturn, 1)) (Nat.le_refl _) (Nat.le_refl _) ⟨rfl, h⟩
    · have h := it2 h c5
      refine jB C [(.aload_n 0, 1, 0)] 17 [(0, .ref (b + v0)), (1, .int v1), (2, .int v2)] [.ref (b + v0)] (by decide +kernel) rfl rfl ?_
      obtain ⟨a6, e_a6, h⟩ := h
      refine jGetR C 20 (by decide +kernel : decode cX10_cure 17 = .ok (.getfield 56, 3)) rfl t_v0 kX10 7 (by decide) rfl rfl (by decide) wd_318 e_a6 rfl (fun t_a6 => ?_)
      refine jB C [(.aload_n 0, 1, 0)] 21 [(0, .ref (b + v0)), (1, .int v1), (2, .int v2)] [.ref (b + v0), .ref (b + a6)] (by decide +kernel) rfl rfl ?_
      obtain ⟨a7, e_a7, h⟩ := h
      refine jGetR C 24 (by decide +kernel : decode cX10_cure 21 = .ok (.getfield 14, 3)) rfl t_v0 kX10 0 (by decide) rfl rfl (by decide) wd_311 e_a7 rfl (fun t_a7 => ?_)
      refine jB C [(.iload_n 1, 1, 0), (.iload_n 2, 1, 0)] 26 [(0, .ref (b + v0)), (1, .int v1), (2, .int v2)] [.int v2, .int v1, .ref (b + a7), .ref (b + a6)] (by decide +kernel) rfl rfl ?_
      refine jcVN_I C 29 (rest := []) (ok_X4_cureOf t_a6 t_a7 h) (by decide +kernel : decode cX10_cure 26 = .ok (.invokevirtual 253, 3)) rfl wn_918 wd_920 wp_77 wd_8 wd_921 ⟨rfl, rfl⟩ hd_X4_cureOf ⟨Nat.le_of_ble_eq_true rfl, Nat.le_of_ble_eq_true rfl⟩ t_a6 kX4 (by decide) rfl rfl rfl (Nat.le_of_ble_eq_true rfl) ⟨Nat.zero_le _, Nat.zero_le _⟩ (fun r9 S8 h => ?_)
      refine jGoto C 33 (by decide +kernel : decode cX10_cure 29 = .ok (.goto 4, 3)) rfl ?_
      exact jRetI C (by decide +kernel : decode cX10_cure 33 = .ok (.ireturn, 1)) (Nat.le_refl _) (Nat.le_refl _) ⟨rfl, h⟩
theorem ok_X10_cure {G : Gm} {v0 : Nat} {v1 : Int32} {v2 : Int32} {S : St} {Q : Int32 → St → Prop}  (t_v0 : ok G 9 v0) (h : f_X10_cure G v0 v1 v2 Q S) : MT yX10_cure cX10_cure 3 (some .int) rm_X10_cure 0 0 (fun b => [.ref (b + v0), .int v1, .int v2]) G S (QI (fun r G1 S1 => G1 = G ∧ Q r S1)) := MT.ofJ (by decide +kernel) (fun b => [(0, .ref (b + v0)), (1, .int v1), (2, .int v2)]) (fun b => rfl) (fun b => Nat.le_of_ble_eq_true rfl) (fun l b D cy p e s m below meth c C hE hn => j_X10_cure C hE t_v0 h)
theorem hd_X10_cure : yX10_cure.cls ≠ "java/lang/invoke/MethodHandle" ∧ yX10_cure.cls ≠ "java/lang/invoke/VarHandle" ∧ (parseMethodDescriptor yX10_cure.desc).map (fun d => d.parameters.length) = some 2 := by decide +kernel
abbrev rm_X10_drawn : Room := { frames := 2, cells := 0, slots := 0, locals := 43 }
set_option maxHeartbeats 4000000 in
set_option maxRecDepth 100000 in
theorem j_X10_drawn {p : Program} {l : Launch} {e : Env} {s : State} {m : MethodId} {args : Array Value} {below : List Frame} {meth : Method} {c : Code} {b : Nat} {D : va_G} {cy : Nat → ClassId} {G : Gm} {v0 : Nat} {v1 : Int32} {v2 : Int32} {S : St} {Q : Int32 → St → Prop} (C : CX p s m args meth c b D cy cX10_drawn RX10 3 (some .int)) (hE : s.heap.size + 0 ≤ b + G.2.2) (t_v0 : ok G 9 v0) (h : f_X10_drawn G v0 v1 v2 Q S) : J p l e rm_X10_drawn s m args below meth c b D cy 3 (zI b D cy below args s G Q) 0 0 G S 0 [(0, .ref (b + v0)), (1, .int v1), (2, .int v2)] [] := by
  unfold f_X10_drawn at h
  refine jB C [(.aload_n 0, 1, 0)] 1 [(0, .ref (b + v0)), (1, .int v1), (2, .int v2)] [.ref (b + v0)] (by decide +kernel) rfl rfl ?_
  obtain ⟨a1, e_a1, h⟩ := h
  refine jGetR C 4 (by decide +kernel : decode cX10_drawn 1 = .ok (.getfield 18, 3)) rfl t_v0 kX10 1 (by decide) rfl rfl (by decide) wd_312 e_a1 rfl (fun t_a1 => ?_)
  refine jB C [(.iload_n 1, 1, 0)] 5 [(0, .ref (b + v0)), (1, .int v1), (2, .int v2)] [.int v1, .ref (b + a1)] (by decide +kernel) rfl rfl ?_
  refine jcVN_I C 8 (rest := []) (ok_X5_has t_a1 h) (by decide +kernel : decode cX10_drawn 5 = .ok (.invokevirtual 92, 3)) rfl wn_395 wd_373 wp_4 wd_2 wd_374 ⟨rfl, rfl⟩ hd_X5_has ⟨Nat.le_of_ble_eq_true rfl, Nat.le_of_ble_eq_true rfl⟩ t_a1 kX5 (by decide) rfl rfl rfl (Nat.le_of_ble_eq_true rfl) ⟨Nat.zero_le _, Nat.zero_le _⟩ (fun r3 S2 h => ?_)
  refine jIf_ne C 11 13 (by decide +kernel : decode cX10_drawn 8 = .ok (.ifCond .ne 5, 3)) rfl rfl (fun c4 => ?_) (fun c4 => ?_)
  · have h := it2 h c4
    refine jB C [(.iload_n 2, 1, 0)] 14 [(0, .ref (b + v0)), (1, .int v1), (2, .int v2)] [.int v2] (by decide +kernel) rfl rfl ?_
    refine jcS_I C 17 (rest := []) (ok_X10_isKind h) (by decide +kernel : decode cX10_drawn 14 = .ok (.invokestatic 125, 3)) rfl wd_498 wd_376 wd_1 wd_377 ⟨rfl, rfl⟩ hd_X10_isKind ⟨Nat.le_of_ble_eq_true rfl, Nat.le_of_ble_eq_true rfl⟩ rfl rfl (Nat.le_of_ble_eq_true rfl) ⟨Nat.zero_le _, Nat.zero_le _⟩ (fun r6 S5 h => ?_)
    refine jIf_eq C 20 30 (by decide +kernel : decode cX10_drawn 17 = .ok (.ifCond .eq 13, 3)) rfl rfl (fun c7 => ?_) (fun c7 => ?_)
    · have h := it1 h c7
      refine jB C [(.iload_n 2, 1, 0), (.iconst 4, 1, 4)] 32 [(0, .ref (b + v0)), (1, .int v1), (2, .int v2)] [.int 4, .int v2] (by decide +kernel) rfl rfl ?_
      refine jIcmp_ne C 35 49 (by decide +kernel : decode cX10_drawn 32 = .ok (.if_icmp .ne 17, 3)) rfl rfl (fun c8 => ?_) (fun c8 => ?_)
      · have h := it2 h c8
        refine jB C [(.iconst (-1), 1, (-1))] 50 [(0, .ref (b + v0)), (1, .int v1), (2, .int v2)] [.int (-1)] (by decide +kernel) rfl rfl ?_
        exact jRetI C (by decide +kernel : decode cX10_drawn 50 = .ok (.ireturn, 1)) (Nat.le_refl _) (Nat.le_refl _) ⟨rfl, h⟩
      · have h := it1 h c8
        refine jB C [(.aload_n 0, 1, 0)] 36 [(0, .ref (b + v0)), (1, .int v1), (2, .int v2)] [.ref (b + v0)] (by decide +kernel) rfl rfl ?_
        obtain ⟨a9, e_a9, h⟩ := h
        refine jGetR C 39 (by decide +kernel : decode cX10_drawn 36 = .ok (.getfield 18, 3)) rfl t_v0 kX10 1 (by decide) rfl rfl (by decide) wd_312 e_a9 rfl (fun t_a9 => ?_)
        refine jB C [(.iload_n 1, 1, 0)] 40 [(0, .ref (b + v0)), (1, .int v1), (2, .int v2)] [.int v1, .ref (b + a9)] (by decide +kernel) rfl rfl ?_
        refine jcVN_I C 43 (rest := []) (ok_X5_glassOf t_a9 h) (by decide +kernel : decode cX10_drawn 40 = .ok (.invokevirtual 100, 3)) rfl wn_400 wd_402 wp_9 wd_2 wd_403 ⟨rfl, rfl⟩ hd_X5_glassOf ⟨Nat.le_of_ble_eq_true rfl, Nat.le_of_ble_eq_true rfl⟩ t_a9 kX5 (by decide) rfl rfl rfl (Nat.le_of_ble_eq_true rfl) ⟨Nat.zero_le _, Nat.zero_le _⟩ (fun r11 S10 h => ?_)
        refine jcSN_I C 46 (rest := []) (ok_X3_lensesIn h) (by decide +kernel : decode cX10_drawn 43 = .ok (.invokestatic 108, 3)) rfl wn_410 wd_408 wd_13 wd_409 ⟨rfl, rfl⟩ hd_X3_lensesIn ⟨Nat.le_of_ble_eq_true rfl, Nat.le_of_ble_eq_true rfl⟩ rfl rfl (Nat.le_of_ble_eq_true rfl) ⟨Nat.zero_le _, Nat.zero_le _⟩ (fun r13 S12 h => ?_)
        refine jGoto C 50 (by decide +kernel : decode cX10_drawn 46 = .ok (.goto 4, 3)) rfl ?_
        exact jRetI C (by decide +kernel : decode cX10_drawn 50 = .ok (.ireturn, 1)) (Nat.le_refl _) (Nat.le_refl _) ⟨rfl, h⟩
    · have h := it2 h c7
      refine jB C [(.aload_n 0, 1, 0)] 21 [(0, .ref (b + v0)), (1, .int v1), (2, .int v2)] [.ref (b + v0)] (by decide +kernel) rfl rfl ?_
      obtain ⟨a14, e_a14, h⟩ := h
      refine jGetR C 24 (by decide +kernel : decode cX10_drawn 21 = .ok (.getfield 18, 3)) rfl t_v0 kX10 1 (by decide) rfl rfl (by decide) wd_312 e_a14 rfl (fun t_a14 => ?_)
      refine jB C [(.iload_n 1, 1, 0), (.iload_n 2, 1, 0)] 26 [(0, .ref (b + v0)), (1, .int v1), (2, .int v2)] [.int v2, .int v1, .ref (b + a14)] (by decide +kernel) rfl rfl ?_
      refine jcVN_I C 29 (rest := []) (ok_X5_sinOf t_a14 h) (by decide +kernel : decode cX10_drawn 26 = .ok (.invokevirtual 96, 3)) rfl wn_396 wd_398 wp_8 wd_2 wd_399 ⟨rfl, rfl⟩ hd_X5_sinOf ⟨Nat.le_of_ble_eq_true rfl, Nat.le_of_ble_eq_true rfl⟩ t_a14 kX5 (by decide) rfl rfl rfl (Nat.le_of_ble_eq_true rfl) ⟨Nat.zero_le _, Nat.zero_le _⟩ (fun r16 S15 h => ?_)
      exact jRetI C (by decide +kernel : decode cX10_drawn 29 = .ok (.ireturn, 1)) (Nat.le_refl _) (Nat.le_refl _) ⟨rfl, h⟩
  · have h := it1 h c4
    refine jB C [(.iconst (-1), 1, (-1))] 12 [(0, .ref (b + v0)), (1, .int v1), (2, .int v2)] [.int (-1)] (by decide +kernel) rfl rfl ?_
    exact jRetI C (by decide +kernel : decode cX10_drawn 12 = .ok (.ireturn, 1)) (Nat.le_refl _) (Nat.le_refl _) ⟨rfl, h⟩
theorem ok_X10_drawn {G : Gm} {v0 : Nat} {v1 : Int32} {v2 : Int32} {S : St} {Q : Int32 → St → Prop}  (t_v0 : ok G 9 v0) (h : f_X10_drawn G v0 v1 v2 Q S) : MT yX10_drawn cX10_drawn 3 (some .int) rm_X10_drawn 0 0 (fun b => [.ref (b + v0), .int v1, .int v2]) G S (QI (fun r G1 S1 => G1 = G ∧ Q r S1)) := MT.ofJ (by decide +kernel) (fun b => [(0, .ref (b + v0)), (1, .int v1), (2, .int v2)]) (fun b => rfl) (fun b => Nat.le_of_ble_eq_true rfl) (fun l b D cy p e s m below meth c C hE hn => j_X10_drawn C hE t_v0 h)
theorem hd_X10_drawn : yX10_drawn.cls ≠ "java/lang/invoke/MethodHandle" ∧ yX10_drawn.cls ≠ "java/lang/invoke/VarHandle" ∧ (parseMethodDescriptor yX10_drawn.desc).map (fun d => d.parameters.length) = some 2 := by decide +kernel
abbrev rm_X10_end : Room := { frames := 0, cells := 0, slots := 0, locals := 0 }
set_option maxHeartbeats 4000000 in
set_option maxRecDepth 100000 in
theorem j_X10_end {p : Program} {l : Launch} {e : Env} {s : State} {m : MethodId} {args : Array Value} {below : List Frame} {meth : Method} {c : Code} {b : Nat} {D : va_G} {cy : Nat → ClassId} {G : Gm} {v0 : Nat} {v1 : Int32} {S : St} {Q : Int32 → St → Prop} (C : CX p s m args meth c b D cy cX10_end RX10 2 (some .int)) (hE : s.heap.size + 0 ≤ b + G.2.2) (t_v0 : ok G 9 v0) (h : f_X10_end G v0 v1 Q S) : J p l e rm_X10_end s m args below meth c b D cy 2 (zI b D cy below args s G Q) 0 0 G S 0 [(0, .ref (b + v0)), (1, .int v1)] [] := by
  unfold f_X10_end at h
  refine jB C [(.iload_n 1, 1, 0)] 1 [(0, .ref (b + v0)), (1, .int v1)] [.int v1] (by decide +kernel) rfl rfl ?_
  refine jIf_lt C 4 15 (by decide +kernel : decode cX10_end 1 = .ok (.ifCond .lt 14, 3)) rfl rfl (fun c1 => ?_) (fun c1 => ?_)
  · have h := it1 h c1
    refine jB C [(.iconst (-1), 1, (-1))] 16 [(0, .ref (b + v0)), (1, .int v1)] [.int (-1)] (by decide +kernel) rfl rfl ?_
    exact jRetI C (by decide +kernel : decode cX10_end 16 = .ok (.ireturn, 1)) (Nat.le_refl _) (Nat.le_refl _) ⟨rfl, h⟩
  · have h := it2 h c1
    refine jB C [(.iload_n 1, 1, 0), (.aload_n 0, 1, 0)] 6 [(0, .ref (b + v0)), (1, .int v1)] [.ref (b + v0), .int v1] (by decide +kernel) rfl rfl ?_
    obtain ⟨a2, e_a2, h⟩ := h
    refine jGetR C 9 (by decide +kernel : decode cX10_end 6 = .ok (.getfield 63, 3)) rfl t_v0 kX10 8 (by decide) rfl rfl (by decide) wd_319 e_a2 rfl (fun t_a2 => ?_)
    refine jGetIN C 12 (by decide +kernel : decode cX10_end 9 = .ok (.getfield 171, 3)) rfl t_a2 kX6 1 (by decide) rfl rfl (by decide) wn_276 ?_
    refine jIcmp_le C 15 17 (by decide +kernel : decode cX10_end 12 = .ok (.if_icmp .le 5, 3)) rfl rfl (fun c3 => ?_) (fun c3 => ?_)
    · have h := it1 h c3
      refine jB C [(.aload_n 0, 1, 0)] 18 [(0, .ref (b + v0)), (1, .int v1)] [.ref (b + v0)] (by decide +kernel) rfl rfl ?_
      obtain ⟨a4, e_a4, h⟩ := h
      refine jGetR C 21 (by decide +kernel : decode cX10_end 18 = .ok (.getfield 63, 3)) rfl t_v0 kX10 8 (by decide) rfl rfl (by decide) wd_319 e_a4 rfl (fun t_a4 => ?_)
      refine jB C [(.iload_n 1, 1, 0)] 22 [(0, .ref (b + v0)), (1, .int v1)] [.int v1, .ref (b + a4)] (by decide +kernel) rfl rfl ?_
      refine jPutIN C 25 (by decide +kernel : decode cX10_end 22 = .ok (.putfield 171, 3)) rfl hE t_a4 kX6 1 (by decide) rfl rfl (by decide) rfl wn_276 rfl rfl rfl ?_
      refine jTopS (fun S5 e_S5 => ?_)
      have h := h S5 e_S5
      refine jB C [(.iload_n 1, 1, 0)] 26 [(0, .ref (b + v0)), (1, .int v1)] [.int v1] (by decide +kernel) rfl rfl ?_
      exact jRetI C (by decide +kernel : decode cX10_end 26 = .ok (.ireturn, 1)) (Nat.le_refl _) (Nat.le_refl _) ⟨rfl, h⟩
    · have h := it2 h c3
      refine jB C [(.iconst (-1), 1, (-1))] 16 [(0, .ref (b + v0)), (1, .int v1)] [.int (-1)] (by decide +kernel) rfl rfl ?_
      exact jRetI C (by decide +kernel : decode cX10_end 16 = .ok (.ireturn, 1)) (Nat.le_refl _) (Nat.le_refl _) ⟨rfl, h⟩
theorem ok_X10_end {G : Gm} {v0 : Nat} {v1 : Int32} {S : St} {Q : Int32 → St → Prop}  (t_v0 : ok G 9 v0) (h : f_X10_end G v0 v1 Q S) : MT yX10_end cX10_end 2 (some .int) rm_X10_end 0 0 (fun b => [.ref (b + v0), .int v1]) G S (QI (fun r G1 S1 => G1 = G ∧ Q r S1)) := MT.ofJ (by decide +kernel) (fun b => [(0, .ref (b + v0)), (1, .int v1)]) (fun b => rfl) (fun b => Nat.le_of_ble_eq_true rfl) (fun l b D cy p e s m below meth c C hE hn => j_X10_end C hE t_v0 h)
theorem hd_X10_end : yX10_end.cls ≠ "java/lang/invoke/MethodHandle" ∧ yX10_end.cls ≠ "java/lang/invoke/VarHandle" ∧ (parseMethodDescriptor yX10_end.desc).map (fun d => d.parameters.length) = some 1 := by decide +kernel
abbrev rm_X10_fault : Room := { frames := 0, cells := 0, slots := 0, locals := 0 }
set_option maxHeartbeats 4000000 in
set_option maxRecDepth 100000 in
theorem j_X10_fault {p : Program} {l : Launch} {e : Env} {s : State} {m : MethodId} {args : Array Value} {below : List Frame} {meth : Method} {c : Code} {b : Nat} {D : va_G} {cy : Nat → ClassId} {G : Gm} {v0 : Nat} {S : St} {Q : Int32 → St → Prop} (C : CX p s m args meth c b D cy cX10_fault RX10 1 (some .int)) (hE : s.heap.size + 0 ≤ b + G.2.2) (t_v0 : ok G 9 v0) (h : f_X10_fault G v0 Q S) : J p l e rm_X10_fault s m args below meth c b D cy 1 (zI b D cy below args s G Q) 0 0 G S 0 [(0, .ref (b + v0))] [] := by
  unfold f_X10_fault at h
  refine jB C [(.aload_n 0, 1, 0)] 1 [(0, .ref (b + v0))] [.ref (b + v0)] (by decide +kernel) rfl rfl ?_
  obtain ⟨a1, e_a1, h⟩ := h
  refine jGetR C 4 (by decide +kernel : decode cX10_fault 1 = .ok (.getfield 63, 3)) rfl t_v0 kX10 8 (by decide) rfl rfl (by decide) wd_319 e_a1 rfl (fun t_a1 => ?_)
  refine jGetIN C 7 (by decide +kernel : decode cX10_fault 4 = .ok (.getfield 230, 3)) rfl t_a1 kX6 9 (by decide) rfl rfl (by decide) wn_285 ?_
  exact jRetI C (by decide +kernel : decode cX10_fault 7 = .ok (.ireturn, 1)) (Nat.le_refl _) (Nat.le_refl _) ⟨rfl, h⟩
theorem ok_X10_fault {G : Gm} {v0 : Nat} {S : St} {Q : Int32 → St → Prop}  (t_v0 : ok G 9 v0) (h : f_X10_fault G v0 Q S) : MT yX10_fault cX10_fault 1 (some .int) rm_X10_fault 0 0 (fun b => [.ref (b + v0)]) G S (QI (fun r G1 S1 => G1 = G ∧ Q r S1)) := MT.ofJ (by decide +kernel) (fun b => [(0, .ref (b + v0))]) (fun b => rfl) (fun b => Nat.le_of_ble_eq_true rfl) (fun l b D cy p e s m below meth c C hE hn => j_X10_fault C hE t_v0 h)
theorem hd_X10_fault : yX10_fault.cls ≠ "java/lang/invoke/MethodHandle" ∧ yX10_fault.cls ≠ "java/lang/invoke/VarHandle" ∧ (parseMethodDescriptor yX10_fault.desc).map (fun d => d.parameters.length) = some 0 := by decide +kernel
abbrev rm_X6_hasRoomFor : Room := { frames := 0, cells := 0, slots := 0, locals := 0 }
set_option maxHeartbeats 4000000 in
set_option maxRecDepth 100000 in
theorem j_X6_hasRoomFor {p : Program} {l : Launch} {e : Env} {s : State} {m : MethodId} {args : Array Value} {below : List Frame} {meth : Method} {c : Code} {b : Nat} {D : va_G} {cy : Nat → ClassId} {G : Gm} {v0 : Nat} {v1 : Int32} {S : St} {Q : Int32 → St → Prop} (C : CX p s m args meth c b D cy cX6_hasRoomFor RX6 2 (some .boolean)) (hE : s.heap.size + 0 ≤ b + G.2.2) (t_v0 : ok G 5 v0) (h : f_X6_hasRoomFor G v0 v1 Q S) : J p l e rm_X6_hasRoomFor s m args below meth c b D cy 2 (zI b D cy below args s G Q) 0 0 G S 0 [(0, .ref (b + v0)), (1, .int v1)] [] := by
  unfold f_X6_hasRoomFor at h
  refine jB C [(.aload_n 0, 1, 0)] 1 [(0, .ref (b + v0)), (1, .int v1)] [.ref (b + v0)] (by decide +kernel) rfl rfl ?_
  refine jGetI C 4 (by decide +kernel : decode cX6_hasRoomFor 1 = .ok (.getfield 37, 3)) rfl t_v0 kX6 1 (by decide) rfl rfl (by decide) wd_275 ?_
  refine jB C [(.iload_n 1, 1, 0), (.iadd, 1, 0), (.sipush 400, 3, 400)] 9 [(0, .ref (b + v0)), (1, .int v1)] [.int 400, .int ((S.1 v0 1) + v1)] (by decide +kernel) rfl rfl ?_
  refine jIcmp_gt C 12 16 (by decide +kernel : decode cX6_hasRoomFor 9 = .ok (.if_icmp .gt 7, 3)) rfl rfl (fun c1 => ?_) (fun c1 => ?_)
  · have h := it1 h c1
    refine jB C [(.iconst 0, 1, 0)] 17 [(0, .ref (b + v0)), (1, .int v1)] [.int 0] (by decide +kernel) rfl rfl ?_
    exact jRetZ C (by decide +kernel : decode cX6_hasRoomFor 17 = .ok (.ireturn, 1)) (Nat.le_refl _) (Nat.le_refl _) (by decide) ⟨rfl, h⟩
  · have h := it2 h c1
    refine jB C [(.iconst 1, 1, 1)] 13 [(0, .ref (b + v0)), (1, .int v1)] [.int 1] (by decide +kernel) rfl rfl ?_
    refine jGoto C 17 (by decide +kernel : decode cX6_hasRoomFor 13 = .ok (.goto 4, 3)) rfl ?_
    exact jRetZ C (by decide +kernel : decode cX6_hasRoomFor 17 = .ok (.ireturn, 1)) (Nat.le_refl _) (Nat.le_refl _) (by decide) ⟨rfl, h⟩
theorem ok_X6_hasRoomFor {G : Gm} {v0 : Nat} {v1 : Int32} {S : St} {Q : Int32 → St → Prop}  (t_v0 : ok G 5 v0) (h : f_X6_hasRoomFor G v0 v1 Q S) : MT yX6_hasRoomFor cX6_hasRoomFor 2 (some .boolean) rm_X6_hasRoomFor 0 0 (fun b => [.ref (b + v0), .int v1]) G S (QI (fun r G1 S1 => G1 = G ∧ Q r S1)) := MT.ofJ (by decide +kernel) (fun b => [(0, .ref (b + v0)), (1, .int v1)]) (fun b => rfl) (fun b => Nat.le_of_ble_eq_true rfl) (fun l b D cy p e s m below meth c C hE hn => j_X6_hasRoomFor C hE t_v0 h)
theorem hd_X6_hasRoomFor : yX6_hasRoomFor.cls ≠ "java/lang/invoke/MethodHandle" ∧ yX6_hasRoomFor.cls ≠ "java/lang/invoke/VarHandle" ∧ (parseMethodDescriptor yX6_hasRoomFor.desc).map (fun d => d.parameters.length) = some 1 := by decide +kernel
abbrev rm_X6_addFour : Room := { frames := 0, cells := 0, slots := 0, locals := 0 }
set_option maxHeartbeats 4000000 in
set_option maxRecDepth 100000 in
theorem j_X6_addFour_3_n {p : Program} {l : Launch} {e : Env} {s : State} {m : MethodId} {args : Array Value} {below : List Frame} {meth : Method} {c : Code} {b : Nat} {D : va_G} {cy : Nat → ClassId} {G : Gm} {v0 : Nat} {v1 : Int32} {Q : St → Prop} (C : CX p s m args meth c b D cy cX6_addFour RX6 3 none) (hE : s.heap.size + 0 ≤ b + G.2.2) (t_v0 : ok G 5 v0) : ∀ k (v2 : Int32) S, f_X6_addFour_3_n G v0 v1 Q k v2 S → J p l e rm_X6_addFour s m args below meth c b D cy 3 (zV b D cy below args s G Q) 0 0 G S 3 [(0, .ref (b + v0)), (1, .int v1), (2, .int v2)] [] := by
  intro k
  induction k with
  | zero => intro v2 S h; exact h.elim
  | succ k ih =>
    intro v2 S h
    unfold f_X6_addFour_3_n at h
    refine jB C [(.iload_n 2, 1, 0)] 4 [(0, .ref (b + v0)), (1, .int v1), (2, .int v2)] [.int v2] (by decide +kernel) rfl rfl ?_
    refine jIf_lt C 7 56 (by decide +kernel : decode cX6_addFour 4 = .ok (.ifCond .lt 52, 3)) rfl rfl (fun c1 => ?_) (fun c1 => ?_)
    · have h := it1 h c1
      exact jRetV C (by decide +kernel : decode cX6_addFour 56 = .ok (.return_, 1)) (Nat.le_refl _) (Nat.le_refl _) ⟨rfl, h⟩
    · have h := it2 h c1
      refine jB C [(.aload_n 0, 1, 0)] 8 [(0, .ref (b + v0)), (1, .int v1), (2, .int v2)] [.ref (b + v0)] (by decide +kernel) rfl rfl ?_
      refine jGetI C 11 (by decide +kernel : decode cX6_addFour 8 = .ok (.getfield 37, 3)) rfl t_v0 kX6 1 (by decide) rfl rfl (by decide) wd_275 ?_
      refine jIf_lt C 14 50 (by decide +kernel : decode cX6_addFour 11 = .ok (.ifCond .lt 39, 3)) rfl rfl (fun c2 => ?_) (fun c2 => ?_)
      · have h := it1 h c2
        refine jB C [(.iinc 2 (-8), 3, (-8))] 53 [(2, .int (v2 + (-8))), (0, .ref (b + v0)), (1, .int v1)] [] (by decide +kernel) rfl rfl ?_
        refine jGoto C 3 (by decide +kernel : decode cX6_addFour 53 = .ok (.goto (-50), 3)) rfl ?_
        refine jSub [1, 2, 0] rfl ?_
        exact ih (v2 + (-8)) S h
      · have h := it2 h c2
        refine jB C [(.aload_n 0, 1, 0)] 15 [(0, .ref (b + v0)), (1, .int v1), (2, .int v2)] [.ref (b + v0)] (by decide +kernel) rfl rfl ?_
        refine jGetI C 18 (by decide +kernel : decode cX6_addFour 15 = .ok (.getfield 37, 3)) rfl t_v0 kX6 1 (by decide) rfl rfl (by decide) wd_275 ?_
        refine jB C [(.sipush 400, 3, 400)] 21 [(0, .ref (b + v0)), (1, .int v1), (2, .int v2)] [.int 400, .int (S.1 v0 1)] (by decide +kernel) rfl rfl ?_
        refine jIcmp_ge C 24 50 (by decide +kernel : decode cX6_addFour 21 = .ok (.if_icmp .ge 29, 3)) rfl rfl (fun c3 => ?_) (fun c3 => ?_)
        · have h := it1 h c3
          refine jB C [(.iinc 2 (-8), 3, (-8))] 53 [(2, .int (v2 + (-8))), (0, .ref (b + v0)), (1, .int v1)] [] (by decide +kernel) rfl rfl ?_
          refine jGoto C 3 (by decide +kernel : decode cX6_addFour 53 = .ok (.goto (-50), 3)) rfl ?_
          refine jSub [1, 2, 0] rfl ?_
          exact ih (v2 + (-8)) S h
        · have h := it2 h c3
          refine jB C [(.aload_n 0, 1, 0)] 25 [(0, .ref (b + v0)), (1, .int v1), (2, .int v2)] [.ref (b + v0)] (by decide +kernel) rfl rfl ?_
          obtain ⟨a4, e_a4, h⟩ := h
          refine jGetR C 28 (by decide +kernel : decode cX6_addFour 25 = .ok (.getfield 9, 3)) rfl t_v0 kX6 0 (by decide) rfl rfl (by decide) wd_274 e_a4 rfl (fun t_a4 => ?_)
          refine jB C [(.aload_n 0, 1, 0)] 29 [(0, .ref (b + v0)), (1, .int v1), (2, .int v2)] [.ref (b + v0), .ref (b + a4)] (by decide +kernel) rfl rfl ?_
          refine jGetI C 32 (by decide +kernel : decode cX6_addFour 29 = .ok (.getfield 37, 3)) rfl t_v0 kX6 1 (by decide) rfl rfl (by decide) wd_275 ?_
          refine jB C [(.iload_n 1, 1, 0), (.iload_n 2, 1, 0), (.ishr, 1, 0), (.sipush 255, 3, 255), (.iand, 1, 0)] 39 [(0, .ref (b + v0)), (1, .int v1), (2, .int v2)] [.int ((v1 >>> ((v2 : Int32) &&& 31)) &&& 255), .int (S.1 v0 1), .ref (b + a4)] (by decide +kernel) rfl rfl ?_
          obtain ⟨y5, h⟩ := h
          refine jIast C 40 (by decide +kernel : decode cX6_addFour 39 = .ok (.iastore, 1)) rfl hE t_a4 y5 ?_
          refine jTopS (fun S6 e_S6 => ?_)
          have h := h S6 e_S6
          refine jB C [(.aload_n 0, 1, 0), (.dup, 1, 0)] 42 [(0, .ref (b + v0)), (1, .int v1), (2, .int v2)] [.ref (b + v0), .ref (b + v0)] (by decide +kernel) rfl rfl ?_
          refine jGetI C 45 (by decide +kernel : decode cX6_addFour 42 = .ok (.getfield 37, 3)) rfl t_v0 kX6 1 (by decide) rfl rfl (by decide) wd_275 ?_
          refine jB C [(.iconst 1, 1, 1), (.iadd, 1, 0)] 47 [(0, .ref (b + v0)), (1, .int v1), (2, .int v2)] [.int ((S6.1 v0 1) + 1), .ref (b + v0)] (by decide +kernel) rfl rfl ?_
          refine jPutI C 50 (by decide +kernel : decode cX6_addFour 47 = .ok (.putfield 37, 3)) rfl hE t_v0 kX6 1 (by decide) rfl rfl (by decide) rfl wd_275 rfl rfl rfl ?_
          refine jTopS (fun S7 e_S7 => ?_)
          have h := h S7 e_S7
          refine jB C [(.iinc 2 (-8), 3, (-8))] 53 [(2, .int (v2 + (-8))), (0, .ref (b + v0)), (1, .int v1)] [] (by decide +kernel) rfl rfl ?_
          refine jGoto C 3 (by decide +kernel : decode cX6_addFour 53 = .ok (.goto (-50), 3)) rfl ?_
          refine jSub [1, 2, 0] rfl ?_
          exact ih (v2 + (-8)) S7 h
theorem j_X6_addFour_3 {p : Program} {l : Launch} {e : Env} {s : State} {m : MethodId} {args : Array Value} {below : List Frame} {meth : Method} {c : Code} {b : Nat} {D : va_G} {cy : Nat → ClassId} {G : Gm} {v0 : Nat} {v1 : Int32} {v2 : Int32} {S : St} {Q : St → Prop} (C : CX p s m args meth c b D cy cX6_addFour RX6 3 none) (hE : s.heap.size + 0 ≤ b + G.2.2) (t_v0 : ok G 5 v0) (h : f_X6_addFour_3 G v0 v1 Q v2 S) : J p l e rm_X6_addFour s m args below meth c b D cy 3 (zV b D cy below args s G Q) 0 0 G S 3 [(0, .ref (b + v0)), (1, .int v1), (2, .int v2)] [] := by
  obtain ⟨k, h⟩ := h
  exact j_X6_addFour_3_n C hE t_v0 k v2 S h
set_option maxHeartbeats 4000000 in
set_option maxRecDepth 100000 in
theorem j_X6_addFour {p : Program} {l : Launch} {e : Env} {s : State} {m : MethodId} {args : Array Value} {below : List Frame} {meth : Method} {c : Code} {b : Nat} {D : va_G} {cy : Nat → ClassId} {G : Gm} {v0 : Nat} {v1 : Int32} {S : St} {Q : St → Prop} (C : CX p s m args meth c b D cy cX6_addFour RX6 3 none) (hE : s.heap.size + 0 ≤ b + G.2.2) (t_v0 : ok G 5 v0) (h : f_X6_addFour G v0 v1 Q S) : J p l e rm_X6_addFour s m args below meth c b D cy 3 (zV b D cy below args s G Q) 0 0 G S 0 [(0, .ref (b + v0)), (1, .int v1)] [] := by
  unfold f_X6_addFour at h
  refine jB C [(.bipush 24, 2, 24), (.istore_n 2, 1, 0)] 3 [(2, .int 24), (0, .ref (b + v0)), (1, .int v1)] [] (by decide +kernel) rfl rfl ?_
  refine jSub [1, 2, 0] rfl ?_
  exact j_X6_addFour_3 C hE t_v0 h
theorem ok_X6_addFour {G : Gm} {v0 : Nat} {v1 : Int32} {S : St} {Q : St → Prop}  (t_v0 : ok G 5 v0) (h : f_X6_addFour G v0 v1 Q S) : MT yX6_addFour cX6_addFour 3 none rm_X6_addFour 0 0 (fun b => [.ref (b + v0), .int v1]) G S (QV (fun G1 S1 => G1 = G ∧ Q S1)) := MT.ofJ (by decide +kernel) (fun b => [(0, .ref (b + v0)), (1, .int v1)]) (fun b => rfl) (fun b => Nat.le_of_ble_eq_true rfl) (fun l b D cy p e s m below meth c C hE hn => j_X6_addFour C hE t_v0 h)
theorem hd_X6_addFour : yX6_addFour.cls ≠ "java/lang/invoke/MethodHandle" ∧ yX6_addFour.cls ≠ "java/lang/invoke/VarHandle" ∧ (parseMethodDescriptor yX6_addFour.desc).map (fun d => d.parameters.length) = some 1 := by decide +kernel
abbrev rm_X10_feed : Room := { frames := 1, cells := 0, slots := 0, locals := 22 }
set_option maxHeartbeats 4000000 in
set_option maxRecDepth 100000 in
theorem j_X10_feed {p : Program} {l : Launch} {e : Env} {s : State} {m : MethodId} {args : Array Value} {below : List Frame} {meth : Method} {c : Code} {b : Nat} {D : va_G} {cy : Nat → ClassId} {G : Gm} {v0 : Nat} {v1 : Int32} {v2 : Int32} {v3 : Int32} {v4 : Int32} {v5 : Int32} {S : St} {Q : Int32 → St → Prop} (C : CX p s m args meth c b D cy cX10_feed RX10 6 (some .int)) (hE : s.heap.size + 0 ≤ b + G.2.2) (t_v0 : ok G 9 v0) (h : f_X10_feed G v0 v1 v2 v3 v4 v5 Q S) : J p l e rm_X10_feed s m args below meth c b D cy 6 (zI b D cy below args s G Q) 0 0 G S 0 [(0, .ref (b + v0)), (1, .int v1), (2, .int v2), (3, .int v3), (4, .int v4), (5, .int v5)] [] := by
  unfold f_X10_feed at h
  refine jB C [(.aload_n 0, 1, 0)] 1 [(0, .ref (b + v0)), (1, .int v1), (2, .int v2), (3, .int v3), (4, .int v4), (5, .int v5)] [.ref (b + v0)] (by decide +kernel) rfl rfl ?_
  obtain ⟨a1, e_a1, h⟩ := h
  refine jGetR C 4 (by decide +kernel : decode cX10_feed 1 = .ok (.getfield 63, 3)) rfl t_v0 kX10 8 (by decide) rfl rfl (by decide) wd_319 e_a1 rfl (fun t_a1 => ?_)
  refine jB C [(.bipush 20, 2, 20)] 6 [(0, .ref (b + v0)), (1, .int v1), (2, .int v2), (3, .int v3), (4, .int v4), (5, .int v5)] [.int 20, .ref (b + a1)] (by decide +kernel) rfl rfl ?_
  refine jcVN_I C 9 (rest := []) (ok_X6_hasRoomFor t_a1 h) (by decide +kernel : decode cX10_feed 6 = .ok (.invokevirtual 164, 3)) rfl wn_549 wd_551 wp_28 wd_9 wd_552 ⟨rfl, rfl⟩ hd_X6_hasRoomFor ⟨Nat.le_of_ble_eq_true rfl, Nat.le_of_ble_eq_true rfl⟩ t_a1 kX6 (by decide) rfl rfl rfl (Nat.le_of_ble_eq_true rfl) ⟨Nat.zero_le _, Nat.zero_le _⟩ (fun r3 S2 h => ?_)
  refine jIf_ne C 12 14 (by decide +kernel : decode cX10_feed 9 = .ok (.ifCond .ne 5, 3)) rfl rfl (fun c4 => ?_) (fun c4 => ?_)
  · have h := it2 h c4
    refine jB C [(.aload_n 0, 1, 0)] 15 [(0, .ref (b + v0)), (1, .int v1), (2, .int v2), (3, .int v3), (4, .int v4), (5, .int v5)] [.ref (b + v0)] (by decide +kernel) rfl rfl ?_
    obtain ⟨a5, e_a5, h⟩ := h
    refine jGetR C 18 (by decide +kernel : decode cX10_feed 15 = .ok (.getfield 63, 3)) rfl t_v0 kX10 8 (by decide) rfl rfl (by decide) wd_319 e_a5 rfl (fun t_a5 => ?_)
    refine jB C [(.iload_n 1, 1, 0)] 19 [(0, .ref (b + v0)), (1, .int v1), (2, .int v2), (3, .int v3), (4, .int v4), (5, .int v5)] [.int v1, .ref (b + a5)] (by decide +kernel) rfl rfl ?_
    refine jcVN_V C 22 (rest := []) (ok_X6_addFour t_a5 h) (by decide +kernel : decode cX10_feed 19 = .ok (.invokevirtual 167, 3)) rfl wn_553 wd_555 wp_29 wd_9 wd_556 ⟨rfl, rfl⟩ hd_X6_addFour ⟨Nat.le_of_ble_eq_true rfl, Nat.le_of_ble_eq_true rfl⟩ t_a5 kX6 (by decide) rfl rfl rfl (Nat.le_of_ble_eq_true rfl) ⟨Nat.zero_le _, Nat.zero_le _⟩ (fun S6 h => ?_)
    refine jB C [(.aload_n 0, 1, 0)] 23 [(0, .ref (b + v0)), (1, .int v1), (2, .int v2), (3, .int v3), (4, .int v4), (5, .int v5)] [.ref (b + v0)] (by decide +kernel) rfl rfl ?_
    obtain ⟨a7, e_a7, h⟩ := h
    refine jGetR C 26 (by decide +kernel : decode cX10_feed 23 = .ok (.getfield 63, 3)) rfl t_v0 kX10 8 (by decide) rfl rfl (by decide) wd_319 e_a7 rfl (fun t_a7 => ?_)
    refine jB C [(.iload_n 2, 1, 0)] 27 [(0, .ref (b + v0)), (1, .int v1), (2, .int v2), (3, .int v3), (4, .int v4), (5, .int v5)] [.int v2, .ref (b + a7)] (by decide +kernel) rfl rfl ?_
    refine jcVN_V C 30 (rest := []) (ok_X6_addFour t_a7 h) (by decide +kernel : decode cX10_feed 27 = .ok (.invokevirtual 167, 3)) rfl wn_553 wd_555 wp_29 wd_9 wd_556 ⟨rfl, rfl⟩ hd_X6_addFour ⟨Nat.le_of_ble_eq_true rfl, Nat.le_of_ble_eq_true rfl⟩ t_a7 kX6 (by decide) rfl rfl rfl (Nat.le_of_ble_eq_true rfl) ⟨Nat.zero_le _, Nat.zero_le _⟩ (fun S8 h => ?_)
    refine jB C [(.aload_n 0, 1, 0)] 31 [(0, .ref (b + v0)), (1, .int v1), (2, .int v2), (3, .int v3), (4, .int v4), (5, .int v5)] [.ref (b + v0)] (by decide +kernel) rfl rfl ?_
    obtain ⟨a9, e_a9, h⟩ := h
    refine jGetR C 34 (by decide +kernel : decode cX10_feed 31 = .ok (.getfield 63, 3)) rfl t_v0 kX10 8 (by decide) rfl rfl (by decide) wd_319 e_a9 rfl (fun t_a9 => ?_)
    refine jB C [(.iload_n 3, 1, 0)] 35 [(0, .ref (b + v0)), (1, .int v1), (2, .int v2), (3, .int v3), (4, .int v4), (5, .int v5)] [.int v3, .ref (b + a9)] (by decide +kernel) rfl rfl ?_
    refine jcVN_V C 38 (rest := []) (ok_X6_addFour t_a9 h) (by decide +kernel : decode cX10_feed 35 = .ok (.invokevirtual 167, 3)) rfl wn_553 wd_555 wp_29 wd_9 wd_556 ⟨rfl, rfl⟩ hd_X6_addFour ⟨Nat.le_of_ble_eq_true rfl, Nat.le_of_ble_eq_true rfl⟩ t_a9 kX6 (by decide) rfl rfl rfl (Nat.le_of_ble_eq_true rfl) ⟨Nat.zero_le _, Nat.zero_le _⟩ (fun S10 h => ?_)
    refine jB C [(.aload_n 0, 1, 0)] 39 [(0, .ref (b + v0)), (1, .int v1), (2, .int v2), (3, .int v3), (4, .int v4), (5, .int v5)] [.ref (b + v0)] (by decide +kernel) rfl rfl ?_
    obtain ⟨a11, e_a11, h⟩ := h
    refine jGetR C 42 (by decide +kernel : decode cX10_feed 39 = .ok (.getfield 63, 3)) rfl t_v0 kX10 8 (by decide) rfl rfl (by decide) wd_319 e_a11 rfl (fun t_a11 => ?_)
    refine jB C [(.iload 4, 2, 0)] 44 [(0, .ref (b + v0)), (1, .int v1), (2, .int v2), (3, .int v3), (4, .int v4), (5, .int v5)] [.int v4, .ref (b + a11)] (by decide +kernel) rfl rfl ?_
    refine jcVN_V C 47 (rest := []) (ok_X6_addFour t_a11 h) (by decide +kernel : decode cX10_feed 44 = .ok (.invokevirtual 167, 3)) rfl wn_553 wd_555 wp_29 wd_9 wd_556 ⟨rfl, rfl⟩ hd_X6_addFour ⟨Nat.le_of_ble_eq_true rfl, Nat.le_of_ble_eq_true rfl⟩ t_a11 kX6 (by decide) rfl rfl rfl (Nat.le_of_ble_eq_true rfl) ⟨Nat.zero_le _, Nat.zero_le _⟩ (fun S12 h => ?_)
    refine jB C [(.aload_n 0, 1, 0)] 48 [(0, .ref (b + v0)), (1, .int v1), (2, .int v2), (3, .int v3), (4, .int v4), (5, .int v5)] [.ref (b + v0)] (by decide +kernel) rfl rfl ?_
    obtain ⟨a13, e_a13, h⟩ := h
    refine jGetR C 51 (by decide +kernel : decode cX10_feed 48 = .ok (.getfield 63, 3)) rfl t_v0 kX10 8 (by decide) rfl rfl (by decide) wd_319 e_a13 rfl (fun t_a13 => ?_)
    refine jB C [(.iload 5, 2, 0)] 53 [(0, .ref (b + v0)), (1, .int v1), (2, .int v2), (3, .int v3), (4, .int v4), (5, .int v5)] [.int v5, .ref (b + a13)] (by decide +kernel) rfl rfl ?_
    refine jcVN_V C 56 (rest := []) (ok_X6_addFour t_a13 h) (by decide +kernel : decode cX10_feed 53 = .ok (.invokevirtual 167, 3)) rfl wn_553 wd_555 wp_29 wd_9 wd_556 ⟨rfl, rfl⟩ hd_X6_addFour ⟨Nat.le_of_ble_eq_true rfl, Nat.le_of_ble_eq_true rfl⟩ t_a13 kX6 (by decide) rfl rfl rfl (Nat.le_of_ble_eq_true rfl) ⟨Nat.zero_le _, Nat.zero_le _⟩ (fun S14 h => ?_)
    refine jB C [(.aload_n 0, 1, 0)] 57 [(0, .ref (b + v0)), (1, .int v1), (2, .int v2), (3, .int v3), (4, .int v4), (5, .int v5)] [.ref (b + v0)] (by decide +kernel) rfl rfl ?_
    obtain ⟨a15, e_a15, h⟩ := h
    refine jGetR C 60 (by decide +kernel : decode cX10_feed 57 = .ok (.getfield 63, 3)) rfl t_v0 kX10 8 (by decide) rfl rfl (by decide) wd_319 e_a15 rfl (fun t_a15 => ?_)
    refine jGetIN C 63 (by decide +kernel : decode cX10_feed 60 = .ok (.getfield 171, 3)) rfl t_a15 kX6 1 (by decide) rfl rfl (by decide) wn_276 ?_
    exact jRetI C (by decide +kernel : decode cX10_feed 63 = .ok (.ireturn, 1)) (Nat.le_refl _) (Nat.le_refl _) ⟨rfl, h⟩
  · have h := it1 h c4
    refine jB C [(.iconst (-1), 1, (-1))] 13 [(0, .ref (b + v0)), (1, .int v1), (2, .int v2), (3, .int v3), (4, .int v4), (5, .int v5)] [.int (-1)] (by decide +kernel) rfl rfl ?_
    exact jRetI C (by decide +kernel : decode cX10_feed 13 = .ok (.ireturn, 1)) (Nat.le_refl _) (Nat.le_refl _) ⟨rfl, h⟩
theorem ok_X10_feed {G : Gm} {v0 : Nat} {v1 : Int32} {v2 : Int32} {v3 : Int32} {v4 : Int32} {v5 : Int32} {S : St} {Q : Int32 → St → Prop}  (t_v0 : ok G 9 v0) (h : f_X10_feed G v0 v1 v2 v3 v4 v5 Q S) : MT yX10_feed cX10_feed 6 (some .int) rm_X10_feed 0 0 (fun b => [.ref (b + v0), .int v1, .int v2, .int v3, .int v4, .int v5]) G S (QI (fun r G1 S1 => G1 = G ∧ Q r S1)) := MT.ofJ (by decide +kernel) (fun b => [(0, .ref (b + v0)), (1, .int v1), (2, .int v2), (3, .int v3), (4, .int v4), (5, .int v5)]) (fun b => rfl) (fun b => Nat.le_of_ble_eq_true rfl) (fun l b D cy p e s m below meth c C hE hn => j_X10_feed C hE t_v0 h)
theorem hd_X10_feed : yX10_feed.cls ≠ "java/lang/invoke/MethodHandle" ∧ yX10_feed.cls ≠ "java/lang/invoke/VarHandle" ∧ (parseMethodDescriptor yX10_feed.desc).map (fun d => d.parameters.length) = some 5 := by decide +kernel
abbrev rm_X5_wantedOf : Room := { frames := 1, cells := 0, slots := 0, locals := 21 }
set_option maxHeartbeats 4000000 in
set_option maxRecDepth 100000 in
theorem j_X5_wantedOf {p : Program} {l : Launch} {e : Env} {s : State} {m : MethodId} {args : Array Value} {below : List Frame} {meth : Method} {c : Code} {b : Nat} {D : va_G} {cy : Nat → ClassId} {G : Gm} {v0 : Nat} {v1 : Int32} {S : St} {Q : Int32 → St → Prop} (C : CX p s m args meth c b D cy cX5_wantedOf RX5 2 (some .int)) (hE : s.heap.size + 0 ≤ b + G.2.2) (t_v0 : ok G 4 v0) (h : f_X5_wantedOf G v0 v1 Q S) : J p l e rm_X5_wantedOf s m args below meth c b D cy 2 (zI b D cy below args s G Q) 0 0 G S 0 [(0, .ref (b + v0)), (1, .int v1)] [] := by
  unfold f_X5_wantedOf at h
  refine jB C [(.aload_n 0, 1, 0), (.iload_n 1, 1, 0)] 2 [(0, .ref (b + v0)), (1, .int v1)] [.int v1, .ref (b + v0)] (by decide +kernel) rfl rfl ?_
  refine jcV_I C 5 (rest := []) (ok_X5_has t_v0 h) (by decide +kernel : decode cX5_wantedOf 2 = .ok (.invokevirtual 66, 3)) rfl wd_371 wd_373 wp_4 wd_2 wd_374 ⟨rfl, rfl⟩ hd_X5_has ⟨Nat.le_of_ble_eq_true rfl, Nat.le_of_ble_eq_true rfl⟩ t_v0 kX5 (by decide) rfl rfl rfl (Nat.le_of_ble_eq_true rfl) ⟨Nat.zero_le _, Nat.zero_le _⟩ (fun r2 S1 h => ?_)
  refine jIf_eq C 8 17 (by decide +kernel : decode cX5_wantedOf 5 = .ok (.ifCond .eq 12, 3)) rfl rfl (fun c3 => ?_) (fun c3 => ?_)
  · have h := it1 h c3
    refine jB C [(.iconst 0, 1, 0)] 18 [(0, .ref (b + v0)), (1, .int v1)] [.int 0] (by decide +kernel) rfl rfl ?_
    exact jRetI C (by decide +kernel : decode cX5_wantedOf 18 = .ok (.ireturn, 1)) (Nat.le_refl _) (Nat.le_refl _) ⟨rfl, h⟩
  · have h := it2 h c3
    refine jB C [(.aload_n 0, 1, 0)] 9 [(0, .ref (b + v0)), (1, .int v1)] [.ref (b + v0)] (by decide +kernel) rfl rfl ?_
    obtain ⟨a4, e_a4, h⟩ := h
    refine jGetR C 12 (by decide +kernel : decode cX5_wantedOf 9 = .ok (.getfield 18, 3)) rfl t_v0 kX5 3 (by decide) rfl rfl (by decide) wd_44 e_a4 rfl (fun t_a4 => ?_)
    refine jB C [(.iload_n 1, 1, 0)] 13 [(0, .ref (b + v0)), (1, .int v1)] [.int v1, .ref (b + a4)] (by decide +kernel) rfl rfl ?_
    obtain ⟨y5, h⟩ := h
    refine jIald C 14 (by decide +kernel : decode cX5_wantedOf 13 = .ok (.iaload, 1)) rfl t_a4 y5 ?_
    refine jGoto C 18 (by decide +kernel : decode cX5_wantedOf 14 = .ok (.goto 4, 3)) rfl ?_
    exact jRetI C (by decide +kernel : decode cX5_wantedOf 18 = .ok (.ireturn, 1)) (Nat.le_refl _) (Nat.le_refl _) ⟨rfl, h⟩
theorem ok_X5_wantedOf {G : Gm} {v0 : Nat} {v1 : Int32} {S : St} {Q : Int32 → St → Prop}  (t_v0 : ok G 4 v0) (h : f_X5_wantedOf G v0 v1 Q S) : MT yX5_wantedOf cX5_wantedOf 2 (some .int) rm_X5_wantedOf 0 0 (fun b => [.ref (b + v0), .int v1]) G S (QI (fun r G1 S1 => G1 = G ∧ Q r S1)) := MT.ofJ (by decide +kernel) (fun b => [(0, .ref (b + v0)), (1, .int v1)]) (fun b => rfl) (fun b => Nat.le_of_ble_eq_true rfl) (fun l b D cy p e s m below meth c C hE hn => j_X5_wantedOf C hE t_v0 h)
theorem hd_X5_wantedOf : yX5_wantedOf.cls ≠ "java/lang/invoke/MethodHandle" ∧ yX5_wantedOf.cls ≠ "java/lang/invoke/VarHandle" ∧ (parseMethodDescriptor yX5_wantedOf.desc).map (fun d => d.parameters.length) = some 1 := by decide +kernel
abbrev rm_X4_learnFits : Room := { frames := 4, cells := 0, slots := 0, locals := 106 }
set_option maxHeartbeats 4000000 in
set_option maxRecDepth 100000 in
theorem j_X4_learnFits_59 {p : Program} {l : Launch} {e : Env} {s : State} {m : MethodId} {args : Array Value} {below : List Frame} {meth : Method} {c : Code} {b : Nat} {D : va_G} {cy : Nat → ClassId} {G : Gm} {k2 : Int32 → St → Prop} {k10 : Int32 → St → Prop} {v0 : Nat} {v1 : Nat} {v2 : Int32} {v3 : Int32} {v4 : Int32} {u0 : Int32} {u1 : Int32} {u2 : Nat} {S : St} {Q : St → Prop} (C : CX p s m args meth c b D cy cX4_learnFits RX4 6 none) (hE : s.heap.size + 0 ≤ b + G.2.2) (t_v0 : ok G 3 v0) (t_v1 : ok G 4 v1) (t_u2 : ok G 11 u2) (hk2 : ∀ v3' S, k2 v3' S → J p l e rm_X4_learnFits s m args below meth c b D cy 6 (zV b D cy below args s G Q) 0 0 G S 2 [(0, .ref (b + v0)), (1, .ref (b + v1)), (2, .int v2), (3, .int (v3'))] []) (hk10 : ∀ v4' S, k10 v4' S → J p l e rm_X4_learnFits s m args below meth c b D cy 6 (zV b D cy below args s G Q) 0 0 G S 10 [(0, .ref (b + v0)), (1, .ref (b + v1)), (2, .int v2), (3, .int v3), (4, .int (v4'))] []) (h : f_X4_learnFits_59 G k2 k10 v0 v1 v2 v3 v4 u0 u1 u2 Q S) : J p l e rm_X4_learnFits s m args below meth c b D cy 6 (zV b D cy below args s G Q) 0 0 G S 59 [(0, .ref (b + v0)), (1, .ref (b + v1)), (2, .int v2), (3, .int v3), (4, .int v4)] [.int u0, .int u1, .ref (b + u2)] := by
  unfold f_X4_learnFits_59 at h
  obtain ⟨y1, h⟩ := h
  refine jIast C 60 (by decide +kernel : decode cX4_learnFits 59 = .ok (.iastore, 1)) rfl hE t_u2 y1 ?_
  refine jTopS (fun S2 e_S2 => ?_)
  have h := h S2 e_S2
  refine jB C [(.iinc 4 1, 3, 1)] 63 [(4, .int (v4 + 1)), (0, .ref (b + v0)), (1, .ref (b + v1)), (2, .int v2), (3, .int v3)] [] (by decide +kernel) rfl rfl ?_
  refine jGoto C 10 (by decide +kernel : decode cX4_learnFits 63 = .ok (.goto (-53), 3)) rfl ?_
  refine jSub [1, 2, 3, 4, 0] rfl ?_
  exact hk10 (v4 + 1) S2 h
set_option maxHeartbeats 4000000 in
set_option maxRecDepth 100000 in
theorem j_X4_learnFits_10_n {p : Program} {l : Launch} {e : Env} {s : State} {m : MethodId} {args : Array Value} {below : List Frame} {meth : Method} {c : Code} {b : Nat} {D : va_G} {cy : Nat → ClassId} {G : Gm} {k2 : Int32 → St → Prop} {v0 : Nat} {v1 : Nat} {v2 : Int32} {v3 : Int32} {Q : St → Prop} (C : CX p s m args meth c b D cy cX4_learnFits RX4 6 none) (hE : s.heap.size + 0 ≤ b + G.2.2) (t_v0 : ok G 3 v0) (t_v1 : ok G 4 v1) (hk2 : ∀ v3' S, k2 v3' S → J p l e rm_X4_learnFits s m args below meth c b D cy 6 (zV b D cy below args s G Q) 0 0 G S 2 [(0, .ref (b + v0)), (1, .ref (b + v1)), (2, .int v2), (3, .int (v3'))] []) : ∀ k (v4 : Int32) S, f_X4_learnFits_10_n G k2 v0 v1 v2 v3 Q k v4 S → J p l e rm_X4_learnFits s m args below meth c b D cy 6 (zV b D cy below args s G Q) 0 0 G S 10 [(0, .ref (b + v0)), (1, .ref (b + v1)), (2, .int v2), (3, .int v3), (4, .int v4)] [] := by
  intro k
  induction k with
  | zero => intro v4 S h; exact h.elim
  | succ k ih =>
    intro v4 S h
    unfold f_X4_learnFits_10_n at h
    refine jB C [(.iload 4, 2, 0), (.iload_n 2, 1, 0)] 13 [(0, .ref (b + v0)), (1, .ref (b + v1)), (2, .int v2), (3, .int v3), (4, .int v4)] [.int v2, .int v4] (by decide +kernel) rfl rfl ?_
    refine jIcmp_ge C 16 66 (by decide +kernel : decode cX4_learnFits 13 = .ok (.if_icmp .ge 53, 3)) rfl rfl (fun c1 => ?_) (fun c1 => ?_)
    · have h := it1 h c1
      refine jB C [(.iinc 3 1, 3, 1)] 69 [(3, .int (v3 + 1)), (0, .ref (b + v0)), (1, .ref (b + v1)), (2, .int v2), (4, .int v4)] [] (by decide +kernel) rfl rfl ?_
      refine jGoto C 2 (by decide +kernel : decode cX4_learnFits 69 = .ok (.goto (-67), 3)) rfl ?_
      refine jSub [1, 2, 3, 0] rfl ?_
      exact hk2 (v3 + 1) S h
    · have h := it2 h c1
      refine jB C [(.aload_n 0, 1, 0)] 17 [(0, .ref (b + v0)), (1, .ref (b + v1)), (2, .int v2), (3, .int v3), (4, .int v4)] [.ref (b + v0)] (by decide +kernel) rfl rfl ?_
      obtain ⟨a2, e_a2, h⟩ := h
      refine jGetR C 20 (by decide +kernel : decode cX4_learnFits 17 = .ok (.getfield 12, 3)) rfl t_v0 kX4 0 (by decide) rfl rfl (by decide) wd_191 e_a2 rfl (fun t_a2 => ?_)
      refine jB C [(.aload_n 1, 1, 0), (.iload_n 3, 1, 0), (.aload_n 1, 1, 0), (.iload 4, 2, 0)] 25 [(0, .ref (b + v0)), (1, .ref (b + v1)), (2, .int v2), (3, .int v3), (4, .int v4)] [.int v4, .ref (b + v1), .int v3, .ref (b + v1), .ref (b + a2)] (by decide +kernel) rfl rfl ?_
      refine jcVN_I C 28 (rest := [.int v3, .ref (b + v1), .ref (b + a2)]) (ok_X5_sightOf t_v1 h) (by decide +kernel : decode cX4_learnFits 25 = .ok (.invokevirtual 61, 3)) rfl wn_923 wd_413 wp_10 wd_2 wd_414 ⟨rfl, rfl⟩ hd_X5_sightOf ⟨Nat.le_of_ble_eq_true rfl, Nat.le_of_ble_eq_true rfl⟩ t_v1 kX5 (by decide) rfl rfl rfl (Nat.le_of_ble_eq_true rfl) ⟨Nat.zero_le _, Nat.zero_le _⟩ (fun r4 S3 h => ?_)
      refine jcVN_I C 31 (rest := []) (ok_X2_deed t_a2 t_v1 h) (by decide +kernel : decode cX4_learnFits 28 = .ok (.invokevirtual 134, 3)) rfl wn_1000 wd_428 wp_12 wd_4 wd_429 ⟨rfl, rfl⟩ hd_X2_deed ⟨Nat.le_of_ble_eq_true rfl, Nat.le_of_ble_eq_true rfl⟩ t_a2 kX2 (by decide) rfl rfl rfl (Nat.le_of_ble_eq_true rfl) ⟨Nat.zero_le _, Nat.zero_le _⟩ (fun r6 S5 h => ?_)
      refine jB C [(.istore 5, 2, 0), (.aload_n 0, 1, 0)] 34 [(5, .int r6), (0, .ref (b + v0)), (1, .ref (b + v1)), (2, .int v2), (3, .int v3), (4, .int v4)] [.ref (b + v0)] (by decide +kernel) rfl rfl ?_
      obtain ⟨a7, e_a7, h⟩ := h
      refine jGetR C 37 (by decide +kernel : decode cX4_learnFits 34 = .ok (.getfield 37, 3)) rfl t_v0 kX4 7 (by decide) rfl rfl (by decide) wd_198 e_a7 rfl (fun t_a7 => ?_)
      refine jB C [(.iload_n 3, 1, 0), (.bipush 6, 2, 6), (.imul, 1, 0), (.iload 4, 2, 0), (.iadd, 1, 0), (.iload 5, 2, 0), (.aload_n 1, 1, 0), (.iload_n 3, 1, 0)] 48 [(5, .int r6), (0, .ref (b + v0)), (1, .ref (b + v1)), (2, .int v2), (3, .int v3), (4, .int v4)] [.int v3, .ref (b + v1), .int r6, .int ((v3 * 6) + v4), .ref (b + a7)] (by decide +kernel) rfl rfl ?_
      refine jcVN_I C 51 (rest := [.int r6, .int ((v3 * 6) + v4), .ref (b + a7)]) (ok_X5_wantedOf t_v1 h) (by decide +kernel : decode cX4_learnFits 48 = .ok (.invokevirtual 138, 3)) rfl wn_1001 wd_487 wp_22 wd_2 wd_488 ⟨rfl, rfl⟩ hd_X5_wantedOf ⟨Nat.le_of_ble_eq_true rfl, Nat.le_of_ble_eq_true rfl⟩ t_v1 kX5 (by decide) rfl rfl rfl (Nat.le_of_ble_eq_true rfl) ⟨Nat.zero_le _, Nat.zero_le _⟩ (fun r9 S8 h => ?_)
      refine jIcmp_ne C 54 58 (by decide +kernel : decode cX4_learnFits 51 = .ok (.if_icmp .ne 7, 3)) rfl rfl (fun c10 => ?_) (fun c10 => ?_)
      · have h := it2 h c10
        refine jB C [(.iconst 0, 1, 0)] 59 [(5, .int r6), (0, .ref (b + v0)), (1, .ref (b + v1)), (2, .int v2), (3, .int v3), (4, .int v4)] [.int 0, .int ((v3 * 6) + v4), .ref (b + a7)] (by decide +kernel) rfl rfl ?_
        refine jSub [1, 2, 3, 4, 5] rfl ?_
        exact j_X4_learnFits_59 C hE t_v0 t_v1 t_a7 hk2 ih h
      · have h := it1 h c10
        refine jB C [(.iconst 1, 1, 1)] 55 [(5, .int r6), (0, .ref (b + v0)), (1, .ref (b + v1)), (2, .int v2), (3, .int v3), (4, .int v4)] [.int 1, .int ((v3 * 6) + v4), .ref (b + a7)] (by decide +kernel) rfl rfl ?_
        refine jGoto C 59 (by decide +kernel : decode cX4_learnFits 55 = .ok (.goto 4, 3)) rfl ?_
        refine jSub [1, 2, 3, 4, 5] rfl ?_
        exact j_X4_learnFits_59 C hE t_v0 t_v1 t_a7 hk2 ih h
theorem j_X4_learnFits_10 {p : Program} {l : Launch} {e : Env} {s : State} {m : MethodId} {args : Array Value} {below : List Frame} {meth : Method} {c : Code} {b : Nat} {D : va_G} {cy : Nat → ClassId} {G : Gm} {k2 : Int32 → St → Prop} {v0 : Nat} {v1 : Nat} {v2 : Int32} {v3 : Int32} {v4 : Int32} {S : St} {Q : St → Prop} (C : CX p s m args meth c b D cy cX4_learnFits RX4 6 none) (hE : s.heap.size + 0 ≤ b + G.2.2) (t_v0 : ok G 3 v0) (t_v1 : ok G 4 v1) (hk2 : ∀ v3' S, k2 v3' S → J p l e rm_X4_learnFits s m args below meth c b D cy 6 (zV b D cy below args s G Q) 0 0 G S 2 [(0, .ref (b + v0)), (1, .ref (b + v1)), (2, .int v2), (3, .int (v3'))] []) (h : f_X4_learnFits_10 G k2 v0 v1 v2 v3 Q v4 S) : J p l e rm_X4_learnFits s m args below meth c b D cy 6 (zV b D cy below args s G Q) 0 0 G S 10 [(0, .ref (b + v0)), (1, .ref (b + v1)), (2, .int v2), (3, .int v3), (4, .int v4)] [] := by
  obtain ⟨k, h⟩ := h
  exact j_X4_learnFits_10_n C hE t_v0 t_v1 hk2 k v4 S h
set_option maxHeartbeats 4000000 in
set_option maxRecDepth 100000 in
theorem j_X4_learnFits_2_n {p : Program} {l : Launch} {e : Env} {s : State} {m : MethodId} {args : Array Value} {below : List Frame} {meth : Method} {c : Code} {b : Nat} {D : va_G} {cy : Nat → ClassId} {G : Gm} {v0 : Nat} {v1 : Nat} {v2 : Int32} {Q : St → Prop} (C : CX p s m args meth c b D cy cX4_learnFits RX4 6 none) (hE : s.heap.size + 0 ≤ b + G.2.2) (t_v0 : ok G 3 v0) (t_v1 : ok G 4 v1) : ∀ k (v3 : Int32) S, f_X4_learnFits_2_n G v0 v1 v2 Q k v3 S → J p l e rm_X4_learnFits s m args below meth c b D cy 6 (zV b D cy below args s G Q) 0 0 G S 2 [(0, .ref (b + v0)), (1, .ref (b + v1)), (2, .int v2), (3, .int v3)] [] := by
  intro k
  induction k with
  | zero => intro v3 S h; exact h.elim
  | succ k ih =>
    intro v3 S h
    unfold f_X4_learnFits_2_n at h
    refine jB C [(.iload_n 3, 1, 0), (.iload_n 2, 1, 0)] 4 [(0, .ref (b + v0)), (1, .ref (b + v1)), (2, .int v2), (3, .int v3)] [.int v2, .int v3] (by decide +kernel) rfl rfl ?_
    refine jIcmp_ge C 7 72 (by decide +kernel : decode cX4_learnFits 4 = .ok (.if_icmp .ge 68, 3)) rfl rfl (fun c1 => ?_) (fun c1 => ?_)
    · have h := it1 h c1
      exact jRetV C (by decide +kernel : decode cX4_learnFits 72 = .ok (.return_, 1)) (Nat.le_refl _) (Nat.le_refl _) ⟨rfl, h⟩
    · have h := it2 h c1
      refine jB C [(.iconst 0, 1, 0), (.istore 4, 2, 0)] 10 [(4, .int 0), (0, .ref (b + v0)), (1, .ref (b + v1)), (2, .int v2), (3, .int v3)] [] (by decide +kernel) rfl rfl ?_
      refine jSub [1, 2, 3, 4, 0] rfl ?_
      exact j_X4_learnFits_10 C hE t_v0 t_v1 ih h
theorem j_X4_learnFits_2 {p : Program} {l : Launch} {e : Env} {s : State} {m : MethodId} {args : Array Value} {below : List Frame} {meth : Method} {c : Code} {b : Nat} {D : va_G} {cy : Nat → ClassId} {G : Gm} {v0 : Nat} {v1 : Nat} {v2 : Int32} {v3 : Int32} {S : St} {Q : St → Prop} (C : CX p s m args meth c b D cy cX4_learnFits RX4 6 none) (hE : s.heap.size + 0 ≤ b + G.2.2) (t_v0 : ok G 3 v0) (t_v1 : ok G 4 v1) (h : f_X4_learnFits_2 G v0 v1 v2 Q v3 S) : J p l e rm_X4_learnFits s m args below meth c b D cy 6 (zV b D cy below args s G Q) 0 0 G S 2 [(0, .ref (b + v0)), (1, .ref (b + v1)), (2, .int v2), (3, .int v3)] [] := by
  obtain ⟨k, h⟩ := h
  exact j_X4_learnFits_2_n C hE t_v0 t_v1 k v3 S h
set_option maxHeartbeats 4000000 in
set_option maxRecDepth 100000 in
theorem j_X4_learnFits {p : Program} {l : Launch} {e : Env} {s : State} {m : MethodId} {args : Array Value} {below : List Frame} {meth : Method} {c : Code} {b : Nat} {D : va_G} {cy : Nat → ClassId} {G : Gm} {v0 : Nat} {v1 : Nat} {v2 : Int32} {S : St} {Q : St → Prop} (C : CX p s m args meth c b D cy cX4_learnFits RX4 6 none) (hE : s.heap.size + 0 ≤ b + G.2.2) (t_v0 : ok G 3 v0) (t_v1 : ok G 4 v1) (h : f_X4_learnFits G v0 v1 v2 Q S) : J p l e rm_X4_learnFits s m args below meth c b D cy 6 (zV b D cy below args s G Q) 0 0 G S 0 [(0, .ref (b + v0)), (1, .ref (b + v1)), (2, .int v2)] [] := by
  unfold f_X4_learnFits at h
  refine jB C [(.iconst 0, 1, 0), (.istore_n 3, 1, 0)] 2 [(3, .int 0), (0, .ref (b + v0)), (1, .ref (b + v1)), (2, .int v2)] [] (by decide +kernel) rfl rfl ?_
  refine jSub [1, 2, 3, 0] rfl ?_
  exact j_X4_learnFits_2 C hE t_v0 t_v1 h
theorem ok_X4_learnFits {G : Gm} {v0 : Nat} {v1 : Nat} {v2 : Int32} {S : St} {Q : St → Prop}  (t_v0 : ok G 3 v0) (t_v1 : ok G 4 v1) (h : f_X4_learnFits G v0 v1 v2 Q S) : MT yX4_learnFits cX4_learnFits 6 none rm_X4_learnFits 0 0 (fun b => [.ref (b + v0), .ref (b + v1), .int v2]) G S (QV (fun G1 S1 => G1 = G ∧ Q S1)) := MT.ofJ (by decide +kernel) (fun b => [(0, .ref (b + v0)), (1, .ref (b + v1)), (2, .int v2)]) (fun b => rfl) (fun b => Nat.le_of_ble_eq_true rfl) (fun l b D cy p e s m below meth c C hE hn => j_X4_learnFits C hE t_v0 t_v1 h)
theorem hd_X4_learnFits : yX4_learnFits.cls ≠ "java/lang/invoke/MethodHandle" ∧ yX4_learnFits.cls ≠ "java/lang/invoke/VarHandle" ∧ (parseMethodDescriptor yX4_learnFits.desc).map (fun d => d.parameters.length) = some 2 := by decide +kernel
abbrev rm_X4_bestWith : Room := { frames := 0, cells := 0, slots := 0, locals := 0 }
set_option maxHeartbeats 4000000 in
set_option maxRecDepth 100000 in
theorem j_X4_bestWith {p : Program} {l : Launch} {e : Env} {s : State} {m : MethodId} {args : Array Value} {below : List Frame} {meth : Method} {c : Code} {b : Nat} {D : va_G} {cy : Nat → ClassId} {G : Gm} {v0 : Nat} {v1 : Int32} {v2 : Int32} {v3 : Int32} {S : St} {Q : Int32 → St → Prop} (C : CX p s m args meth c b D cy cX4_bestWith RX4 6 (some .int)) (hE : s.heap.size + 0 ≤ b + G.2.2) (t_v0 : ok G 3 v0) (h : f_X4_bestWith G v0 v1 v2 v3 Q S) : J p l e rm_X4_bestWith s m args below meth c b D cy 6 (zI b D cy below args s G Q) 0 0 G S 0 [(0, .ref (b + v0)), (1, .int v1), (2, .int v2), (3, .int v3)] [] := by
  unfold f_X4_bestWith at h
  refine jB C [(.iload_n 3, 1, 0), (.iconst 1, 1, 1), (.iload_n 2, 1, 0), (.ishl, 1, 0), (.ior, 1, 0)] 5 [(0, .ref (b + v0)), (1, .int v1), (2, .int v2), (3, .int v3)] [.int (v3 ||| (1 <<< ((v2 : Int32) &&& 31)))] (by decide +kernel) rfl rfl ?_
  refine jTopI (fun x1 e_x1 => ?_)
  have h := h x1 e_x1
  refine jB C [(.istore 4, 2, 0), (.iload_n 1, 1, 0), (.bipush 6, 2, 6), (.imul, 1, 0), (.iload_n 2, 1, 0), (.iadd, 1, 0)] 13 [(4, .int x1), (0, .ref (b + v0)), (1, .int v1), (2, .int v2), (3, .int v3)] [.int ((v1 * 6) + v2)] (by decide +kernel) rfl rfl ?_
  refine jTopI (fun x2 e_x2 => ?_)
  have h := h x2 e_x2
  refine jB C [(.istore 5, 2, 0), (.iload 4, 2, 0), (.iload_n 3, 1, 0)] 18 [(5, .int x2), (4, .int x1), (0, .ref (b + v0)), (1, .int v1), (2, .int v2), (3, .int v3)] [.int v3, .int x1] (by decide +kernel) rfl rfl ?_
  refine jIcmp_eq C 21 51 (by decide +kernel : decode cX4_bestWith 18 = .ok (.if_icmp .eq 33, 3)) rfl rfl (fun c3 => ?_) (fun c3 => ?_)
  · have h := it1 h c3
    refine jB C [(.iconst (-1), 1, (-1))] 52 [(5, .int x2), (4, .int x1), (0, .ref (b + v0)), (1, .int v1), (2, .int v2), (3, .int v3)] [.int (-1)] (by decide +kernel) rfl rfl ?_
    exact jRetI C (by decide +kernel : decode cX4_bestWith 52 = .ok (.ireturn, 1)) (Nat.le_refl _) (Nat.le_refl _) ⟨rfl, h⟩
  · have h := it2 h c3
    refine jB C [(.iload 4, 2, 0)] 23 [(5, .int x2), (4, .int x1), (0, .ref (b + v0)), (1, .int v1), (2, .int v2), (3, .int v3)] [.int x1] (by decide +kernel) rfl rfl ?_
    refine jIf_lt C 26 51 (by decide +kernel : decode cX4_bestWith 23 = .ok (.ifCond .lt 28, 3)) rfl rfl (fun c4 => ?_) (fun c4 => ?_)
    · have h := it1 h c4
      refine jB C [(.iconst (-1), 1, (-1))] 52 [(5, .int x2), (4, .int x1), (0, .ref (b + v0)), (1, .int v1), (2, .int v2), (3, .int v3)] [.int (-1)] (by decide +kernel) rfl rfl ?_
      exact jRetI C (by decide +kernel : decode cX4_bestWith 52 = .ok (.ireturn, 1)) (Nat.le_refl _) (Nat.le_refl _) ⟨rfl, h⟩
    · have h := it2 h c4
      refine jB C [(.iload 4, 2, 0), (.aload_n 0, 1, 0)] 29 [(5, .int x2), (4, .int x1), (0, .ref (b + v0)), (1, .int v1), (2, .int v2), (3, .int v3)] [.ref (b + v0), .int x1] (by decide +kernel) rfl rfl ?_
      obtain ⟨a5, e_a5, h⟩ := h
      refine jGetR C 32 (by decide +kernel : decode cX4_bestWith 29 = .ok (.getfield 40, 3)) rfl t_v0 kX4 8 (by decide) rfl rfl (by decide) wd_199 e_a5 rfl (fun t_a5 => ?_)
      refine jAlen11 C 33 (by decide +kernel : decode cX4_bestWith 32 = .ok (.arraylength, 1)) rfl t_a5 ?_
      refine jIcmp_ge C 36 51 (by decide +kernel : decode cX4_bestWith 33 = .ok (.if_icmp .ge 18, 3)) rfl rfl (fun c6 => ?_) (fun c6 => ?_)
      · have h := it1 h c6
        refine jB C [(.iconst (-1), 1, (-1))] 52 [(5, .int x2), (4, .int x1), (0, .ref (b + v0)), (1, .int v1), (2, .int v2), (3, .int v3)] [.int (-1)] (by decide +kernel) rfl rfl ?_
        exact jRetI C (by decide +kernel : decode cX4_bestWith 52 = .ok (.ireturn, 1)) (Nat.le_refl _) (Nat.le_refl _) ⟨rfl, h⟩
      · have h := it2 h c6
        refine jB C [(.iload 5, 2, 0)] 38 [(5, .int x2), (4, .int x1), (0, .ref (b + v0)), (1, .int v1), (2, .int v2), (3, .int v3)] [.int x2] (by decide +kernel) rfl rfl ?_
        refine jIf_lt C 41 51 (by decide +kernel : decode cX4_bestWith 38 = .ok (.ifCond .lt 13, 3)) rfl rfl (fun c7 => ?_) (fun c7 => ?_)
        · have h := it1 h c7
          refine jB C [(.iconst (-1), 1, (-1))] 52 [(5, .int x2), (4, .int x1), (0, .ref (b + v0)), (1, .int v1), (2, .int v2), (3, .int v3)] [.int (-1)] (by decide +kernel) rfl rfl ?_
          exact jRetI C (by decide +kernel : decode cX4_bestWith 52 = .ok (.ireturn, 1)) (Nat.le_refl _) (Nat.le_refl _) ⟨rfl, h⟩
        · have h := it2 h c7
          refine jB C [(.iload 5, 2, 0), (.aload_n 0, 1, 0)] 44 [(5, .int x2), (4, .int x1), (0, .ref (b + v0)), (1, .int v1), (2, .int v2), (3, .int v3)] [.ref (b + v0), .int x2] (by decide +kernel) rfl rfl ?_
          obtain ⟨a8, e_a8, h⟩ := h
          refine jGetR C 47 (by decide +kernel : decode cX4_bestWith 44 = .ok (.getfield 37, 3)) rfl t_v0 kX4 7 (by decide) rfl rfl (by decide) wd_198 e_a8 rfl (fun t_a8 => ?_)
          refine jAlen11 C 48 (by decide +kernel : decode cX4_bestWith 47 = .ok (.arraylength, 1)) rfl t_a8 ?_
          refine jIcmp_lt C 51 53 (by decide +kernel : decode cX4_bestWith 48 = .ok (.if_icmp .lt 5, 3)) rfl rfl (fun c9 => ?_) (fun c9 => ?_)
          · have h := it1 h c9
            refine jB C [(.aload_n 0, 1, 0)] 54 [(5, .int x2), (4, .int x1), (0, .ref (b + v0)), (1, .int v1), (2, .int v2), (3, .int v3)] [.ref (b + v0)] (by decide +kernel) rfl rfl ?_
            obtain ⟨a10, e_a10, h⟩ := h
            refine jGetR C 57 (by decide +kernel : decode cX4_bestWith 54 = .ok (.getfield 37, 3)) rfl t_v0 kX4 7 (by decide) rfl rfl (by decide) wd_198 e_a10 rfl (fun t_a10 => ?_)
            refine jB C [(.iload 5, 2, 0)] 59 [(5, .int x2), (4, .int x1), (0, .ref (b + v0)), (1, .int v1), (2, .int v2), (3, .int v3)] [.int x2, .ref (b + a10)] (by decide +kernel) rfl rfl ?_
            obtain ⟨y11, h⟩ := h
            refine jIald C 60 (by decide +kernel : decode cX4_bestWith 59 = .ok (.iaload, 1)) rfl t_a10 y11 ?_
            refine jB C [(.aload_n 0, 1, 0)] 61 [(5, .int x2), (4, .int x1), (0, .ref (b + v0)), (1, .int v1), (2, .int v2), (3, .int v3)] [.ref (b + v0), .int (S.1 a10 x2.toNatClampNeg)] (by decide +kernel) rfl rfl ?_
            obtain ⟨a12, e_a12, h⟩ := h
            refine jGetR C 64 (by decide +kernel : decode cX4_bestWith 61 = .ok (.getfield 40, 3)) rfl t_v0 kX4 8 (by decide) rfl rfl (by decide) wd_199 e_a12 rfl (fun t_a12 => ?_)
            refine jB C [(.iload 4, 2, 0)] 66 [(5, .int x2), (4, .int x1), (0, .ref (b + v0)), (1, .int v1), (2, .int v2), (3, .int v3)] [.int x1, .ref (b + a12), .int (S.1 a10 x2.toNatClampNeg)] (by decide +kernel) rfl rfl ?_
            obtain ⟨y13, h⟩ := h
            refine jIald C 67 (by decide +kernel : decode cX4_bestWith 66 = .ok (.iaload, 1)) rfl t_a12 y13 ?_
            refine jB C [(.iadd, 1, 0)] 68 [(5, .int x2), (4, .int x1), (0, .ref (b + v0)), (1, .int v1), (2, .int v2), (3, .int v3)] [.int ((S.1 a10 x2.toNatClampNeg) + (S.1 a12 x1.toNatClampNeg))] (by decide +kernel) rfl rfl ?_
            exact jRetI C (by decide +kernel : decode cX4_bestWith 68 = .ok (.ireturn, 1)) (Nat.le_refl _) (Nat.le_refl _) ⟨rfl, h⟩
          · have h := it2 h c9
            refine jB C [(.iconst (-1), 1, (-1))] 52 [(5, .int x2), (4, .int x1), (0, .ref (b + v0)), (1, .int v1), (2, .int v2), (3, .int v3)] [.int (-1)] (by decide +kernel) rfl rfl ?_
            exact jRetI C (by decide +kernel : decode cX4_bestWith 52 = .ok (.ireturn, 1)) (Nat.le_refl _) (Nat.le_refl _) ⟨rfl, h⟩
theorem ok_X4_bestWith {G : Gm} {v0 : Nat} {v1 : Int32} {v2 : Int32} {v3 : Int32} {S : St} {Q : Int32 → St → Prop}  (t_v0 : ok G 3 v0) (h : f_X4_bestWith G v0 v1 v2 v3 Q S) : MT yX4_bestWith cX4_bestWith 6 (some .int) rm_X4_bestWith 0 0 (fun b => [.ref (b + v0), .int v1, .int v2, .int v3]) G S (QI (fun r G1 S1 => G1 = G ∧ Q r S1)) := MT.ofJ (by decide +kernel) (fun b => [(0, .ref (b + v0)), (1, .int v1), (2, .int v2), (3, .int v3)]) (fun b => rfl) (fun b => Nat.le_of_ble_eq_true rfl) (fun l b D cy p e s m below meth c C hE hn => j_X4_bestWith C hE t_v0 h)
theorem hd_X4_bestWith : yX4_bestWith.cls ≠ "java/lang/invoke/MethodHandle" ∧ yX4_bestWith.cls ≠ "java/lang/invoke/VarHandle" ∧ (parseMethodDescriptor yX4_bestWith.desc).map (fun d => d.parameters.length) = some 3 := by decide +kernel
abbrev rm_X4_learnBest : Room := { frames := 1, cells := 0, slots := 0, locals := 30 }
set_option maxHeartbeats 4000000 in
set_option maxRecDepth 100000 in
theorem j_X4_learnBest_37_n {p : Program} {l : Launch} {e : Env} {s : State} {m : MethodId} {args : Array Value} {below : List Frame} {meth : Method} {c : Code} {b : Nat} {D : va_G} {cy : Nat → ClassId} {G : Gm} {k17 : Int32 → St → Prop} {v0 : Nat} {v1 : Int32} {v3 : Int32} {v4 : Int32} {Q : St → Prop} (C : CX p s m args meth c b D cy cX4_learnBest RX4 6 none) (hE : s.heap.size + 0 ≤ b + G.2.2) (t_v0 : ok G 3 v0) (hk17 : ∀ v3' S, k17 v3' S → J p l e rm_X4_learnBest s m args below meth c b D cy 6 (zV b D cy below args s G Q) 0 0 G S 17 [(0, .ref (b + v0)), (1, .int v1), (3, .int (v3'))] []) : ∀ k (v5 : Int32) S, f_X4_learnBest_37_n G k17 v0 v1 v3 v4 Q k v5 S → J p l e rm_X4_learnBest s m args below meth c b D cy 6 (zV b D cy below args s G Q) 0 0 G S 37 [(0, .ref (b + v0)), (1, .int v1), (3, .int v3), (4, .int v4), (5, .int v5)] [] := by
  intro k
  induction k with
  | zero => intro v5 S h; exact h.elim
  | succ k ih =>
    intro v5 S h
    unfold f_X4_learnBest_37_n at h
    refine jB C [(.iload 5, 2, 0), (.iload_n 1, 1, 0)] 40 [(0, .ref (b + v0)), (1, .int v1), (3, .int v3), (4, .int v4), (5, .int v5)] [.int v1, .int v5] (by decide +kernel) rfl rfl ?_
    refine jIcmp_ge C 43 73 (by decide +kernel : decode cX4_learnBest 40 = .ok (.if_icmp .ge 33, 3)) rfl rfl (fun c1 => ?_) (fun c1 => ?_)
    · have h := it1 h c1
      refine jB C [(.iinc 3 (-1), 3, (-1))] 76 [(3, .int (v3 + (-1))), (0, .ref (b + v0)), (1, .int v1), (4, .int v4), (5, .int v5)] [] (by decide +kernel) rfl rfl ?_
      refine jGoto C 17 (by decide +kernel : decode cX4_learnBest 76 = .ok (.goto (-59), 3)) rfl ?_
      refine jSub [1, 2, 0] rfl ?_
      exact hk17 (v3 + (-1)) S h
    · have h := it2 h c1
      refine jB C [(.aload_n 0, 1, 0)] 44 [(0, .ref (b + v0)), (1, .int v1), (3, .int v3), (4, .int v4), (5, .int v5)] [.ref (b + v0)] (by decide +kernel) rfl rfl ?_
      obtain ⟨a2, e_a2, h⟩ := h
      refine jGetR C 47 (by decide +kernel : decode cX4_learnBest 44 = .ok (.getfield 40, 3)) rfl t_v0 kX4 8 (by decide) rfl rfl (by decide) wd_199 e_a2 rfl (fun t_a2 => ?_)
      refine jB C [(.iload_n 3, 1, 0), (.aload_n 0, 1, 0)] 49 [(0, .ref (b + v0)), (1, .int v1), (3, .int v3), (4, .int v4), (5, .int v5)] [.ref (b + v0), .int v3, .ref (b + a2)] (by decide +kernel) rfl rfl ?_
      obtain ⟨a3, e_a3, h⟩ := h
      refine jGetR C 52 (by decide +kernel : decode cX4_learnBest 49 = .ok (.getfield 40, 3)) rfl t_v0 kX4 8 (by decide) rfl rfl (by decide) wd_199 e_a3 rfl (fun t_a3 => ?_)
      refine jB C [(.iload_n 3, 1, 0)] 53 [(0, .ref (b + v0)), (1, .int v1), (3, .int v3), (4, .int v4), (5, .int v5)] [.int v3, .ref (b + a3), .int v3, .ref (b + a2)] (by decide +kernel) rfl rfl ?_
      obtain ⟨y4, h⟩ := h
      refine jIald C 54 (by decide +kernel : decode cX4_learnBest 53 = .ok (.iaload, 1)) rfl t_a3 y4 ?_
      refine jB C [(.aload_n 0, 1, 0), (.iload 4, 2, 0), (.iload 5, 2, 0), (.iload_n 3, 1, 0)] 60 [(0, .ref (b + v0)), (1, .int v1), (3, .int v3), (4, .int v4), (5, .int v5)] [.int v3, .int v5, .int v4, .ref (b + v0), .int (S.1 a3 v3.toNatClampNeg), .int v3, .ref (b + a2)] (by decide +kernel) rfl rfl ?_
      refine jcV_I C 63 (rest := [.int (S.1 a3 v3.toNatClampNeg), .int v3, .ref (b + a2)]) (ok_X4_bestWith t_v0 h) (by decide +kernel : decode cX4_learnBest 60 = .ok (.invokevirtual 146, 3)) rfl wd_1012 wd_1014 wp_89 wd_8 wd_1015 ⟨rfl, rfl⟩ hd_X4_bestWith ⟨Nat.le_of_ble_eq_true rfl, Nat.le_of_ble_eq_true rfl⟩ t_v0 kX4 (by decide) rfl rfl rfl (Nat.le_of_ble_eq_true rfl) ⟨Nat.zero_le _, Nat.zero_le _⟩ (fun r6 S5 h => ?_)
      refine jMax C 66 (by decide +kernel : decode cX4_learnBest 63 = .ok (.invokestatic 111, 3)) rfl wd_975 (Nat.le_of_ble_eq_true rfl) (Nat.le_of_ble_eq_true rfl) (Nat.le_of_ble_eq_true rfl) (Nat.zero_le _) (Nat.zero_le _) ?_
      obtain ⟨y7, h⟩ := h
      refine jIast C 67 (by decide +kernel : decode cX4_learnBest 66 = .ok (.iastore, 1)) rfl hE t_a2 y7 ?_
      refine jTopS (fun S8 e_S8 => ?_)
      have h := h S8 e_S8
      refine jB C [(.iinc 5 1, 3, 1)] 70 [(5, .int (v5 + 1)), (0, .ref (b + v0)), (1, .int v1), (3, .int v3), (4, .int v4)] [] (by decide +kernel) rfl rfl ?_
      refine jGoto C 37 (by decide +kernel : decode cX4_learnBest 70 = .ok (.goto (-33), 3)) rfl ?_
      refine jSub [1, 2, 3, 4, 0] rfl ?_
      exact ih (v5 + 1) S8 h
theorem j_X4_learnBest_37 {p : Program} {l : Launch} {e : Env} {s : State} {m : MethodId} {args : Array Value} {below : List Frame} {meth : Method} {c : Code} {b : Nat} {D : va_G} {cy : Nat → ClassId} {G : Gm} {k17 : Int32 → St → Prop} {v0 : Nat} {v1 : Int32} {v3 : Int32} {v4 : Int32} {v5 : Int32} {S : St} {Q : St → Prop} (C : CX p s m args meth c b D cy cX4_learnBest RX4 6 none) (hE : s.heap.size + 0 ≤ b + G.2.2) (t_v0 : ok G 3 v0) (hk17 : ∀ v3' S, k17 v3' S → J p l e rm_X4_learnBest s m args below meth c b D cy 6 (zV b D cy below args s G Q) 0 0 G S 17 [(0, .ref (b + v0)), (1, .int v1), (3, .int (v3'))] []) (h : f_X4_learnBest_37 G k17 v0 v1 v3 v4 Q v5 S) : J p l e rm_X4_learnBest s m args below meth c b D cy 6 (zV b D cy below args s G Q) 0 0 G S 37 [(0, .ref (b + v0)), (1, .int v1), (3, .int v3), (4, .int v4), (5, .int v5)] [] := by
  obtain ⟨k, h⟩ := h
  exact j_X4_learnBest_37_n C hE t_v0 hk17 k v5 S h
set_option maxHeartbeats 4000000 in
set_option maxRecDepth 100000 in
theorem j_X4_learnBest_17_n {p : Program} {l : Launch} {e : Env} {s : State} {m : MethodId} {args : Array Value} {below : List Frame} {meth : Method} {c : Code} {b : Nat} {D : va_G} {cy : Nat → ClassId} {G : Gm} {v0 : Nat} {v1 : Int32} {Q : St → Prop} (C : CX p s m args meth c b D cy cX4_learnBest RX4 6 none) (hE : s.heap.size + 0 ≤ b + G.2.2) (t_v0 : ok G 3 v0) : ∀ k (v3 : Int32) S, f_X4_learnBest_17_n G v0 v1 Q k v3 S → J p l e rm_X4_learnBest s m args below meth c b D cy 6 (zV b D cy below args s G Q) 0 0 G S 17 [(0, .ref (b + v0)), (1, .int v1), (3, .int v3)] [] := by
  intro k
  induction k with
  | zero => intro v3 S h; exact h.elim
  | succ k ih =>
    intro v3 S h
    unfold f_X4_learnBest_17_n at h
    refine jB C [(.iload_n 3, 1, 0)] 18 [(0, .ref (b + v0)), (1, .int v1), (3, .int v3)] [.int v3] (by decide +kernel) rfl rfl ?_
    refine jIf_lt C 21 79 (by decide +kernel : decode cX4_learnBest 18 = .ok (.ifCond .lt 61, 3)) rfl rfl (fun c1 => ?_) (fun c1 => ?_)
    · have h := it1 h c1
      exact jRetV C (by decide +kernel : decode cX4_learnBest 79 = .ok (.return_, 1)) (Nat.le_refl _) (Nat.le_refl _) ⟨rfl, h⟩
    · have h := it2 h c1
      refine jB C [(.iload_n 3, 1, 0)] 22 [(0, .ref (b + v0)), (1, .int v1), (3, .int v3)] [.int v3] (by decide +kernel) rfl rfl ?_
      refine jcS_I C 25 (rest := []) (ok_J6_bitCount_0f7a4 h) (by decide +kernel : decode cX4_learnBest 22 = .ok (.invokestatic 141, 3)) rfl wd_1006 wd_1007 wd_19 wd_1008 ⟨rfl, rfl⟩ hd_J6_bitCount_0f7a4 ⟨Nat.le_of_ble_eq_true rfl, Nat.le_of_ble_eq_true rfl⟩ rfl rfl (Nat.le_of_ble_eq_true rfl) ⟨Nat.zero_le _, Nat.zero_le _⟩ (fun r3 S2 h => ?_)
      refine jB C [(.istore 4, 2, 0), (.aload_n 0, 1, 0)] 28 [(4, .int r3), (0, .ref (b + v0)), (1, .int v1), (3, .int v3)] [.ref (b + v0)] (by decide +kernel) rfl rfl ?_
      obtain ⟨a4, e_a4, h⟩ := h
      refine jGetR C 31 (by decide +kernel : decode cX4_learnBest 28 = .ok (.getfield 40, 3)) rfl t_v0 kX4 8 (by decide) rfl rfl (by decide) wd_199 e_a4 rfl (fun t_a4 => ?_)
      refine jB C [(.iload_n 3, 1, 0), (.iconst 0, 1, 0)] 33 [(4, .int r3), (0, .ref (b + v0)), (1, .int v1), (3, .int v3)] [.int 0, .int v3, .ref (b + a4)] (by decide +kernel) rfl rfl ?_
      obtain ⟨y5, h⟩ := h
      refine jIast C 34 (by decide +kernel : decode cX4_learnBest 33 = .ok (.iastore, 1)) rfl hE t_a4 y5 ?_
      refine jTopS (fun S6 e_S6 => ?_)
      have h := h S6 e_S6
      refine jB C [(.iconst 0, 1, 0), (.istore 5, 2, 0)] 37 [(5, .int 0), (4, .int r3), (0, .ref (b + v0)), (1, .int v1), (3, .int v3)] [] (by decide +kernel) rfl rfl ?_
      refine jSub [2, 3, 4, 1, 0] rfl ?_
      exact j_X4_learnBest_37 C hE t_v0 ih h
theorem j_X4_learnBest_17 {p : Program} {l : Launch} {e : Env} {s : State} {m : MethodId} {args : Array Value} {below : List Frame} {meth : Method} {c : Code} {b : Nat} {D : va_G} {cy : Nat → ClassId} {G : Gm} {v0 : Nat} {v1 : Int32} {v3 : Int32} {S : St} {Q : St → Prop} (C : CX p s m args meth c b D cy cX4_learnBest RX4 6 none) (hE : s.heap.size + 0 ≤ b + G.2.2) (t_v0 : ok G 3 v0) (h : f_X4_learnBest_17 G v0 v1 Q v3 S) : J p l e rm_X4_learnBest s m args below meth c b D cy 6 (zV b D cy below args s G Q) 0 0 G S 17 [(0, .ref (b + v0)), (1, .int v1), (3, .int v3)] [] := by
  obtain ⟨k, h⟩ := h
  exact j_X4_learnBest_17_n C hE t_v0 k v3 S h
set_option maxHeartbeats 4000000 in
set_option maxRecDepth 100000 in
theorem j_X4_learnBest {p : Program} {l : Launch} {e : Env} {s : State} {m : MethodId} {args : Array Value} {below : List Frame} {meth : Method} {c : Code} {b : Nat} {D : va_G} {cy : Nat → ClassId} {G : Gm} {v0 : Nat} {v1 : Int32} {S : St} {Q : St → Prop} (C : CX p s m args meth c b D cy cX4_learnBest RX4 6 none) (hE : s.heap.size + 0 ≤ b + G.2.2) (t_v0 : ok G 3 v0) (h : f_X4_learnBest G v0 v1 Q S) : J p l e rm_X4_learnBest s m args below meth c b D cy 6 (zV b D cy below args s G Q) 0 0 G S 0 [(0, .ref (b + v0)), (1, .int v1)] [] := by
  unfold f_X4_learnBest at h
  refine jB C [(.iconst 1, 1, 1), (.iload_n 1, 1, 0), (.ishl, 1, 0), (.iconst 1, 1, 1), (.isub, 1, 0)] 5 [(0, .ref (b + v0)), (1, .int v1)] [.int ((1 <<< ((v1 : Int32) &&& 31)) - 1)] (by decide +kernel) rfl rfl ?_
  refine jTopI (fun x1 e_x1 => ?_)
  have h := h x1 e_x1
  refine jB C [(.istore_n 2, 1, 0), (.aload_n 0, 1, 0)] 7 [(2, .int x1), (0, .ref (b + v0)), (1, .int v1)] [.ref (b + v0)] (by decide +kernel) rfl rfl ?_
  obtain ⟨a2, e_a2, h⟩ := h
  refine jGetR C 10 (by decide +kernel : decode cX4_learnBest 7 = .ok (.getfield 40, 3)) rfl t_v0 kX4 8 (by decide) rfl rfl (by decide) wd_199 e_a2 rfl (fun t_a2 => ?_)
  refine jB C [(.iload_n 2, 1, 0), (.iconst 0, 1, 0)] 12 [(2, .int x1), (0, .ref (b + v0)), (1, .int v1)] [.int 0, .int x1, .ref (b + a2)] (by decide +kernel) rfl rfl ?_
  obtain ⟨y3, h⟩ := h
  refine jIast C 13 (by decide +kernel : decode cX4_learnBest 12 = .ok (.iastore, 1)) rfl hE t_a2 y3 ?_
  refine jTopS (fun S4 e_S4 => ?_)
  have h := h S4 e_S4
  refine jB C [(.iload_n 2, 1, 0), (.iconst 1, 1, 1), (.isub, 1, 0)] 16 [(2, .int x1), (0, .ref (b + v0)), (1, .int v1)] [.int (x1 - 1)] (by decide +kernel) rfl rfl ?_
  refine jTopI (fun x5 e_x5 => ?_)
  have h := h x5 e_x5
  refine jB C [(.istore_n 3, 1, 0)] 17 [(3, .int x5), (2, .int x1), (0, .ref (b + v0)), (1, .int v1)] [] (by decide +kernel) rfl rfl ?_
  refine jSub [2, 3, 0] rfl ?_
  exact j_X4_learnBest_17 C hE t_v0 h
theorem ok_X4_learnBest {G : Gm} {v0 : Nat} {v1 : Int32} {S : St} {Q : St → Prop}  (t_v0 : ok G 3 v0) (h : f_X4_learnBest G v0 v1 Q S) : MT yX4_learnBest cX4_learnBest 6 none rm_X4_learnBest 0 0 (fun b => [.ref (b + v0), .int v1]) G S (QV (fun G1 S1 => G1 = G ∧ Q S1)) := MT.ofJ (by decide +kernel) (fun b => [(0, .ref (b + v0)), (1, .int v1)]) (fun b => rfl) (fun b => Nat.le_of_ble_eq_true rfl) (fun l b D cy p e s m below meth c C hE hn => j_X4_learnBest C hE t_v0 h)
theorem hd_X4_learnBest : yX4_learnBest.cls ≠ "java/lang/invoke/MethodHandle" ∧ yX4_learnBest.cls ≠ "java/lang/invoke/VarHandle" ∧ (parseMethodDescriptor yX4_learnBest.desc).map (fun d => d.parameters.length) = some 1 := by decide +kernel
abbrev rm_X4_firstBest : Room := { frames := 1, cells := 0, slots := 0, locals := 25 }
set_option maxHeartbeats 4000000 in
set_option maxRecDepth 100000 in
theorem j_X4_firstBest_3_n {p : Program} {l : Launch} {e : Env} {s : State} {m : MethodId} {args : Array Value} {below : List Frame} {meth : Method} {c : Code} {b : Nat} {D : va_G} {cy : Nat → ClassId} {G : Gm} {v0 : Nat} {v1 : Int32} {v2 : Int32} {v3 : Int32} {Q : Int32 → St → Prop} (C : CX p s m args meth c b D cy cX4_firstBest RX4 5 (some .int)) (hE : s.heap.size + 0 ≤ b + G.2.2) (t_v0 : ok G 3 v0) : ∀ k (v4 : Int32) S, f_X4_firstBest_3_n G v0 v1 v2 v3 Q k v4 S → J p l e rm_X4_firstBest s m args below meth c b D cy 5 (zI b D cy below args s G Q) 0 0 G S 3 [(0, .ref (b + v0)), (1, .int v1), (2, .int v2), (3, .int v3), (4, .int v4)] [] := by
  intro k
  induction k with
  | zero => intro v4 S h; exact h.elim
  | succ k ih =>
    intro v4 S h
    unfold f_X4_firstBest_3_n at h
    refine jB C [(.iload 4, 2, 0), (.iload_n 2, 1, 0)] 6 [(0, .ref (b + v0)), (1, .int v1), (2, .int v2), (3, .int v3), (4, .int v4)] [.int v2, .int v4] (by decide +kernel) rfl rfl ?_
    refine jIcmp_ge C 9 48 (by decide +kernel : decode cX4_firstBest 6 = .ok (.if_icmp .ge 42, 3)) rfl rfl (fun c1 => ?_) (fun c1 => ?_)
    · have h := it1 h c1
      refine jB C [(.iconst (-1), 1, (-1))] 49 [(0, .ref (b + v0)), (1, .int v1), (2, .int v2), (3, .int v3), (4, .int v4)] [.int (-1)] (by decide +kernel) rfl rfl ?_
      exact jRetI C (by decide +kernel : decode cX4_firstBest 49 = .ok (.ireturn, 1)) (Nat.le_refl _) (Nat.le_refl _) ⟨rfl, h⟩
    · have h := it2 h c1
      refine jB C [(.iload_n 3, 1, 0)] 10 [(0, .ref (b + v0)), (1, .int v1), (2, .int v2), (3, .int v3), (4, .int v4)] [.int v3] (by decide +kernel) rfl rfl ?_
      refine jIf_lt C 13 42 (by decide +kernel : decode cX4_firstBest 10 = .ok (.ifCond .lt 32, 3)) rfl rfl (fun c2 => ?_) (fun c2 => ?_)
      · have h := it1 h c2
        refine jB C [(.iinc 4 1, 3, 1)] 45 [(4, .int (v4 + 1)), (0, .ref (b + v0)), (1, .int v1), (2, .int v2), (3, .int v3)] [] (by decide +kernel) rfl rfl ?_
        refine jGoto C 3 (by decide +kernel : decode cX4_firstBest 45 = .ok (.goto (-42), 3)) rfl ?_
        refine jSub [1, 2, 3, 4, 0] rfl ?_
        exact ih (v4 + 1) S h
      · have h := it2 h c2
        refine jB C [(.iload_n 3, 1, 0), (.aload_n 0, 1, 0)] 15 [(0, .ref (b + v0)), (1, .int v1), (2, .int v2), (3, .int v3), (4, .int v4)] [.ref (b + v0), .int v3] (by decide +kernel) rfl rfl ?_
        obtain ⟨a3, e_a3, h⟩ := h
        refine jGetR C 18 (by decide +kernel : decode cX4_firstBest 15 = .ok (.getfield 40, 3)) rfl t_v0 kX4 8 (by decide) rfl rfl (by decide) wd_199 e_a3 rfl (fun t_a3 => ?_)
        refine jAlen11 C 19 (by decide +kernel : decode cX4_firstBest 18 = .ok (.arraylength, 1)) rfl t_a3 ?_
        refine jIcmp_ge C 22 42 (by decide +kernel : decode cX4_firstBest 19 = .ok (.if_icmp .ge 23, 3)) rfl rfl (fun c4 => ?_) (fun c4 => ?_)
        · have h := it1 h c4
          refine jB C [(.iinc 4 1, 3, 1)] 45 [(4, .int (v4 + 1)), (0, .ref (b + v0)), (1, .int v1), (2, .int v2), (3, .int v3)] [] (by decide +kernel) rfl rfl ?_
          refine jGoto C 3 (by decide +kernel : decode cX4_firstBest 45 = .ok (.goto (-42), 3)) rfl ?_
          refine jSub [1, 2, 3, 4, 0] rfl ?_
          exact ih (v4 + 1) S h
        · have h := it2 h c4
          refine jB C [(.aload_n 0, 1, 0), (.iload_n 1, 1, 0), (.iload 4, 2, 0), (.iload_n 3, 1, 0)] 27 [(0, .ref (b + v0)), (1, .int v1), (2, .int v2), (3, .int v3), (4, .int v4)] [.int v3, .int v4, .int v1, .ref (b + v0)] (by decide +kernel) rfl rfl ?_
          refine jcV_I C 30 (rest := []) (ok_X4_bestWith t_v0 h) (by decide +kernel : decode cX4_firstBest 27 = .ok (.invokevirtual 146, 3)) rfl wd_1012 wd_1014 wp_89 wd_8 wd_1015 ⟨rfl, rfl⟩ hd_X4_bestWith ⟨Nat.le_of_ble_eq_true rfl, Nat.le_of_ble_eq_true rfl⟩ t_v0 kX4 (by decide) rfl rfl rfl (Nat.le_of_ble_eq_true rfl) ⟨Nat.zero_le _, Nat.zero_le _⟩ (fun r6 S5 h => ?_)
          refine jB C [(.aload_n 0, 1, 0)] 31 [(0, .ref (b + v0)), (1, .int v1), (2, .int v2), (3, .int v3), (4, .int v4)] [.ref (b + v0), .int r6] (by decide +kernel) rfl rfl ?_
          obtain ⟨a7, e_a7, h⟩ := h
          refine jGetR C 34 (by decide +kernel : decode cX4_firstBest 31 = .ok (.getfield 40, 3)) rfl t_v0 kX4 8 (by decide) rfl rfl (by decide) wd_199 e_a7 rfl (fun t_a7 => ?_)
          refine jB C [(.iload_n 3, 1, 0)] 35 [(0, .ref (b + v0)), (1, .int v1), (2, .int v2), (3, .int v3), (4, .int v4)] [.int v3, .ref (b + a7), .int r6] (by decide +kernel) rfl rfl ?_
          obtain ⟨y8, h⟩ := h
          refine jIald C 36 (by decide +kernel : decode cX4_firstBest 35 = .ok (.iaload, 1)) rfl t_a7 y8 ?_
          refine jIcmp_ne C 39 42 (by decide +kernel : decode cX4_firstBest 36 = .ok (.if_icmp .ne 6, 3)) rfl rfl (fun c9 => ?_) (fun c9 => ?_)
          · have h := it2 h c9
            refine jB C [(.iinc 4 1, 3, 1)] 45 [(4, .int (v4 + 1)), (0, .ref (b + v0)), (1, .int v1), (2, .int v2), (3, .int v3)] [] (by decide +kernel) rfl rfl ?_
            refine jGoto C 3 (by decide +kernel : decode cX4_firstBest 45 = .ok (.goto (-42), 3)) rfl ?_
            refine jSub [1, 2, 3, 4, 0] rfl ?_
            exact ih (v4 + 1) S5 h
          · have h := it1 h c9
            refine jB C [(.iload 4, 2, 0)] 41 [(0, .ref (b + v0)), (1, .int v1), (2, .int v2), (3, .int v3), (4, .int v4)] [.int v4] (by decide +kernel) rfl rfl ?_
            exact jRetI C (by decide +kernel : decode cX4_firstBest 41 = .ok (.ireturn, 1)) (Nat.le_refl _) (Nat.le_refl _) ⟨rfl, h⟩
theorem j_X4_firstBest_3 {p : Program} {l : Launch} {e : Env} {s : State} {m : MethodId} {args : Array Value} {below : List Frame} {meth : Method} {c : Code} {b : Nat} {D : va_G} {cy : Nat → ClassId} {G : Gm} {v0 : Nat} {v1 : Int32} {v2 : Int32} {v3 : Int32} {v4 : Int32} {S : St} {Q : Int32 → St → Prop} (C : CX p s m args meth c b D cy cX4_firstBest RX4 5 (some .int)) (hE : s.heap.size + 0 ≤ b + G.2.2) (t_v0 : ok G 3 v0) (h : f_X4_firstBest_3 G v0 v1 v2 v3 Q v4 S) : J p l e rm_X4_firstBest s m args below meth c b D cy 5 (zI b D cy below args s G Q) 0 0 G S 3 [(0, .ref (b + v0)), (1, .int v1), (2, .int v2), (3, .int v3), (4, .int v4)] [] := by
  obtain ⟨k, h⟩ := h
  exact j_X4_firstBest_3_n C hE t_v0 k v4 S h
set_option maxHeartbeats 4000000 in
set_option maxRecDepth 100000 in
theorem j_X4_firstBest {p : Program} {l : Launch} {e : Env} {s : State} {m : MethodId} {args : Array Value} {below : List Frame} {meth : Method} {c : Code} {b : Nat} {D : va_G} {cy : Nat → ClassId} {G : Gm} {v0 : Nat} {v1 : Int32} {v2 : Int32} {v3 : Int32} {S : St} {Q : Int32 → St → Prop} (C : CX p s m args meth c b D cy cX4_firstBest RX4 5 (some .int)) (hE : s.heap.size + 0 ≤ b + G.2.2) (t_v0 : ok G 3 v0) (h : f_X4_firstBest G v0 v1 v2 v3 Q S) : J p l e rm_X4_firstBest s m args below meth c b D cy 5 (zI b D cy below args s G Q) 0 0 G S 0 [(0, .ref (b + v0)), (1, .int v1), (2, .int v2), (3, .int v3)] [] := by
  unfold f_X4_firstBest at h
  refine jB C [(.iconst 0, 1, 0), (.istore 4, 2, 0)] 3 [(4, .int 0), (0, .ref (b + v0)), (1, .int v1), (2, .int v2), (3, .int v3)] [] (by decide +kernel) rfl rfl ?_
  refine jSub [1, 2, 3, 4, 0] rfl ?_
  exact j_X4_firstBest_3 C hE t_v0 h
theorem ok_X4_firstBest {G : Gm} {v0 : Nat} {v1 : Int32} {v2 : Int32} {v3 : Int32} {S : St} {Q : Int32 → St → Prop}  (t_v0 : ok G 3 v0) (h : f_X4_firstBest G v0 v1 v2 v3 Q S) : MT yX4_firstBest cX4_firstBest 5 (some .int) rm_X4_firstBest 0 0 (fun b => [.ref (b + v0), .int v1, .int v2, .int v3]) G S (QI (fun r G1 S1 => G1 = G ∧ Q r S1)) := MT.ofJ (by decide +kernel) (fun b => [(0, .ref (b + v0)), (1, .int v1), (2, .int v2), (3, .int v3)]) (fun b => rfl) (fun b => Nat.le_of_ble_eq_true rfl) (fun l b D cy p e s m below meth c C hE hn => j_X4_firstBest C hE t_v0 h)
theorem hd_X4_firstBest : yX4_firstBest.cls ≠ "java/lang/invoke/MethodHandle" ∧ yX4_firstBest.cls ≠ "java/lang/invoke/VarHandle" ∧ (parseMethodDescriptor yX4_firstBest.desc).map (fun d => d.parameters.length) = some 3 := by decide +kernel
abbrev rm_X4_fit : Room := { frames := 5, cells := 0, slots := 0, locals := 131 }
set_option maxHeartbeats 4000000 in
set_option maxRecDepth 100000 in
theorem j_X4_fit_41_n {p : Program} {l : Launch} {e : Env} {s : State} {m : MethodId} {args : Array Value} {below : List Frame} {meth : Method} {c : Code} {b : Nat} {D : va_G} {cy : Nat → ClassId} {G : Gm} {v0 : Nat} {v2 : Int32} {v3 : Int32} {Q : Int32 → St → Prop} (C : CX p s m args meth c b D cy cX4_fit RX4 7 (some .int)) (hE : s.heap.size + 0 ≤ b + G.2.2) (t_v0 : ok G 3 v0) : ∀ k (v4 : Int32) (v5 : Int32) (v6 : Int32) S, f_X4_fit_41_n G v0 v2 v3 Q k v4 v5 v6 S → J p l e rm_X4_fit s m args below meth c b D cy 7 (zI b D cy below args s G Q) 0 0 G S 41 [(0, .ref (b + v0)), (2, .int v2), (3, .int v3), (4, .int v4), (5, .int v5), (6, .int v6)] [] := by
  intro k
  induction k with
  | zero => intro v4 v5 v6 S h; exact h.elim
  | succ k ih =>
    intro v4 v5 v6 S h
    unfold f_X4_fit_41_n at h
    refine jB C [(.iload 6, 2, 0), (.iload_n 3, 1, 0)] 44 [(0, .ref (b + v0)), (2, .int v2), (3, .int v3), (4, .int v4), (5, .int v5), (6, .int v6)] [.int v3, .int v6] (by decide +kernel) rfl rfl ?_
    refine jIcmp_ge C 47 83 (by decide +kernel : decode cX4_fit 44 = .ok (.if_icmp .ge 39, 3)) rfl rfl (fun c1 => ?_) (fun c1 => ?_)
    · have h := it1 h c1
      refine jB C [(.iload 5, 2, 0)] 85 [(0, .ref (b + v0)), (2, .int v2), (3, .int v3), (4, .int v4), (5, .int v5), (6, .int v6)] [.int v5] (by decide +kernel) rfl rfl ?_
      exact jRetI C (by decide +kernel : decode cX4_fit 85 = .ok (.ireturn, 1)) (Nat.le_refl _) (Nat.le_refl _) ⟨rfl, h⟩
    · have h := it2 h c1
      refine jB C [(.iload 6, 2, 0), (.iload_n 2, 1, 0)] 50 [(0, .ref (b + v0)), (2, .int v2), (3, .int v3), (4, .int v4), (5, .int v5), (6, .int v6)] [.int v2, .int v6] (by decide +kernel) rfl rfl ?_
      refine jIcmp_ge C 53 83 (by decide +kernel : decode cX4_fit 50 = .ok (.if_icmp .ge 33, 3)) rfl rfl (fun c2 => ?_) (fun c2 => ?_)
      · have h := it1 h c2
        refine jB C [(.iload 5, 2, 0)] 85 [(0, .ref (b + v0)), (2, .int v2), (3, .int v3), (4, .int v4), (5, .int v5), (6, .int v6)] [.int v5] (by decide +kernel) rfl rfl ?_
        exact jRetI C (by decide +kernel : decode cX4_fit 85 = .ok (.ireturn, 1)) (Nat.le_refl _) (Nat.le_refl _) ⟨rfl, h⟩
      · have h := it2 h c2
        refine jB C [(.aload_n 0, 1, 0), (.iload 6, 2, 0), (.iload_n 3, 1, 0), (.iload 4, 2, 0)] 59 [(0, .ref (b + v0)), (2, .int v2), (3, .int v3), (4, .int v4), (5, .int v5), (6, .int v6)] [.int v4, .int v3, .int v6, .ref (b + v0)] (by decide +kernel) rfl rfl ?_
        refine jcV_I C 62 (rest := []) (ok_X4_firstBest t_v0 h) (by decide +kernel : decode cX4_fit 59 = .ok (.invokevirtual 130, 3)) rfl wd_1016 wd_1018 wp_90 wd_8 wd_1019 ⟨rfl, rfl⟩ hd_X4_firstBest ⟨Nat.le_of_ble_eq_true rfl, Nat.le_of_ble_eq_true rfl⟩ t_v0 kX4 (by decide) rfl rfl rfl (Nat.le_of_ble_eq_true rfl) ⟨Nat.zero_le _, Nat.zero_le _⟩ (fun r4 S3 h => ?_)
        refine jB C [(.istore 5, 2, 0), (.iload 4, 2, 0), (.iconst 1, 1, 1), (.iload 5, 2, 0), (.iconst 0, 1, 0)] 70 [(5, .int r4), (0, .ref (b + v0)), (2, .int v2), (3, .int v3), (4, .int v4), (6, .int v6)] [.int 0, .int r4, .int 1, .int v4] (by decide +kernel) rfl rfl ?_
        refine jMax C 73 (by decide +kernel : decode cX4_fit 70 = .ok (.invokestatic 111, 3)) rfl wd_975 (Nat.le_of_ble_eq_true rfl) (Nat.le_of_ble_eq_true rfl) (Nat.le_of_ble_eq_true rfl) (Nat.zero_le _) (Nat.zero_le _) ?_
        refine jB C [(.ishl, 1, 0), (.ior, 1, 0)] 75 [(5, .int r4), (0, .ref (b + v0)), (2, .int v2), (3, .int v3), (4, .int v4), (6, .int v6)] [.int (v4 ||| (1 <<< (((mx r4 0) : Int32) &&& 31)))] (by decide +kernel) rfl rfl ?_
        refine jTopI (fun x5 e_x5 => ?_)
        have h := h x5 e_x5
        refine jB C [(.istore 4, 2, 0), (.iinc 6 1, 3, 1)] 80 [(6, .int (v6 + 1)), (4, .int x5), (5, .int r4), (0, .ref (b + v0)), (2, .int v2), (3, .int v3)] [] (by decide +kernel) rfl rfl ?_
        refine jGoto C 41 (by decide +kernel : decode cX4_fit 80 = .ok (.goto (-39), 3)) rfl ?_
        refine jSub [3, 4, 5, 1, 2, 0] rfl ?_
        exact ih x5 r4 (v6 + 1) S3 h
theorem j_X4_fit_41 {p : Program} {l : Launch} {e : Env} {s : State} {m : MethodId} {args : Array Value} {below : List Frame} {meth : Method} {c : Code} {b : Nat} {D : va_G} {cy : Nat → ClassId} {G : Gm} {v0 : Nat} {v2 : Int32} {v3 : Int32} {v4 : Int32} {v5 : Int32} {v6 : Int32} {S : St} {Q : Int32 → St → Prop} (C : CX p s m args meth c b D cy cX4_fit RX4 7 (some .int)) (hE : s.heap.size + 0 ≤ b + G.2.2) (t_v0 : ok G 3 v0) (h : f_X4_fit_41 G v0 v2 v3 Q v4 v5 v6 S) : J p l e rm_X4_fit s m args below meth c b D cy 7 (zI b D cy below args s G Q) 0 0 G S 41 [(0, .ref (b + v0)), (2, .int v2), (3, .int v3), (4, .int v4), (5, .int v5), (6, .int v6)] [] := by
  obtain ⟨k, h⟩ := h
  exact j_X4_fit_41_n C hE t_v0 k v4 v5 v6 S h
set_option maxHeartbeats 4000000 in
set_option maxRecDepth 100000 in
theorem j_X4_fit {p : Program} {l : Launch} {e : Env} {s : State} {m : MethodId} {args : Array Value} {below : List Frame} {meth : Method} {c : Code} {b : Nat} {D : va_G} {cy : Nat → ClassId} {G : Gm} {v0 : Nat} {v1 : Nat} {v2 : Int32} {S : St} {Q : Int32 → St → Prop} (C : CX p s m args meth c b D cy cX4_fit RX4 7 (some .int)) (hE : s.heap.size + 0 ≤ b + G.2.2) (t_v0 : ok G 3 v0) (t_v1 : ok G 4 v1) (h : f_X4_fit G v0 v1 v2 Q S) : J p l e rm_X4_fit s m args below meth c b D cy 7 (zI b D cy below args s G Q) 0 0 G S 0 [(0, .ref (b + v0)), (1, .ref (b + v1)), (2, .int v2)] [] := by
  unfold f_X4_fit at h
  refine jB C [(.aload_n 1, 1, 0)] 1 [(0, .ref (b + v0)), (1, .ref (b + v1)), (2, .int v2)] [.ref (b + v1)] (by decide +kernel) rfl rfl ?_
  refine jGetIN C 4 (by decide +kernel : decode cX4_fit 1 = .ok (.getfield 105, 3)) rfl t_v1 kX5 0 (by decide) rfl rfl (by decide) wn_39 ?_
  refine jB C [(.bipush 6, 2, 6)] 6 [(0, .ref (b + v0)), (1, .ref (b + v1)), (2, .int v2)] [.int 6, .int (S.1 v1 0)] (by decide +kernel) rfl rfl ?_
  refine jMin C 9 (by decide +kernel : decode cX4_fit 6 = .ok (.invokestatic 120, 3)) rfl wd_995 (Nat.le_of_ble_eq_true rfl) (Nat.le_of_ble_eq_true rfl) (Nat.le_of_ble_eq_true rfl) (Nat.zero_le _) (Nat.zero_le _) ?_
  refine jTopI (fun x1 e_x1 => ?_)
  have h := h x1 e_x1
  refine jB C [(.istore_n 3, 1, 0), (.aload_n 0, 1, 0), (.aload_n 1, 1, 0), (.iload_n 3, 1, 0)] 13 [(3, .int x1), (0, .ref (b + v0)), (1, .ref (b + v1)), (2, .int v2)] [.int x1, .ref (b + v1), .ref (b + v0)] (by decide +kernel) rfl rfl ?_
  refine jcV_V C 16 (rest := []) (ok_X4_learnFits t_v0 t_v1 h) (by decide +kernel : decode cX4_fit 13 = .ok (.invokevirtual 123, 3)) rfl wd_996 wd_998 wp_87 wd_8 wd_999 ⟨rfl, rfl⟩ hd_X4_learnFits ⟨Nat.le_of_ble_eq_true rfl, Nat.le_of_ble_eq_true rfl⟩ t_v0 kX4 (by decide) rfl rfl rfl (Nat.le_of_ble_eq_true rfl) ⟨Nat.zero_le _, Nat.zero_le _⟩ (fun S2 h => ?_)
  refine jB C [(.aload_n 0, 1, 0), (.iload_n 3, 1, 0)] 18 [(3, .int x1), (0, .ref (b + v0)), (1, .ref (b + v1)), (2, .int v2)] [.int x1, .ref (b + v0)] (by decide +kernel) rfl rfl ?_
  refine jcV_V C 21 (rest := []) (ok_X4_learnBest t_v0 h) (by decide +kernel : decode cX4_fit 18 = .ok (.invokevirtual 127, 3)) rfl wd_1002 wd_1004 wp_88 wd_8 wd_1005 ⟨rfl, rfl⟩ hd_X4_learnBest ⟨Nat.le_of_ble_eq_true rfl, Nat.le_of_ble_eq_true rfl⟩ t_v0 kX4 (by decide) rfl rfl rfl (Nat.le_of_ble_eq_true rfl) ⟨Nat.zero_le _, Nat.zero_le _⟩ (fun S3 h => ?_)
  refine jB C [(.iload_n 2, 1, 0)] 22 [(3, .int x1), (0, .ref (b + v0)), (1, .ref (b + v1)), (2, .int v2)] [.int v2] (by decide +kernel) rfl rfl ?_
  refine jIf_gt C 25 32 (by decide +kernel : decode cX4_fit 22 = .ok (.ifCond .gt 10, 3)) rfl rfl (fun c4 => ?_) (fun c4 => ?_)
  · have h := it1 h c4
    refine jB C [(.iconst 0, 1, 0), (.istore 4, 2, 0), (.iconst (-1), 1, (-1)), (.istore 5, 2, 0), (.iconst 0, 1, 0), (.istore 6, 2, 0)] 41 [(6, .int 0), (5, .int (-1)), (4, .int 0), (3, .int x1), (0, .ref (b + v0)), (1, .ref (b + v1)), (2, .int v2)] [] (by decide +kernel) rfl rfl ?_
    refine jSub [4, 6, 3, 2, 1, 0] rfl ?_
    exact j_X4_fit_41 C hE t_v0 h
  · have h := it2 h c4
    refine jB C [(.aload_n 0, 1, 0)] 26 [(3, .int x1), (0, .ref (b + v0)), (1, .ref (b + v1)), (2, .int v2)] [.ref (b + v0)] (by decide +kernel) rfl rfl ?_
    obtain ⟨a5, e_a5, h⟩ := h
    refine jGetR C 29 (by decide +kernel : decode cX4_fit 26 = .ok (.getfield 40, 3)) rfl t_v0 kX4 8 (by decide) rfl rfl (by decide) wd_199 e_a5 rfl (fun t_a5 => ?_)
    refine jB C [(.iconst 0, 1, 0)] 30 [(3, .int x1), (0, .ref (b + v0)), (1, .ref (b + v1)), (2, .int v2)] [.int 0, .ref (b + a5)] (by decide +kernel) rfl rfl ?_
    obtain ⟨y6, h⟩ := h
    refine jIald C 31 (by decide +kernel : decode cX4_fit 30 = .ok (.iaload, 1)) rfl t_a5 y6 ?_
    exact jRetI C (by decide +kernel : decode cX4_fit 31 = .ok (.ireturn, 1)) (Nat.le_refl _) (Nat.le_refl _) ⟨rfl, h⟩
theorem ok_X4_fit {G : Gm} {v0 : Nat} {v1 : Nat} {v2 : Int32} {S : St} {Q : Int32 → St → Prop}  (t_v0 : ok G 3 v0) (t_v1 : ok G 4 v1) (h : f_X4_fit G v0 v1 v2 Q S) : MT yX4_fit cX4_fit 7 (some .int) rm_X4_fit 0 0 (fun b => [.ref (b + v0), .ref (b + v1), .int v2]) G S (QI (fun r G1 S1 => G1 = G ∧ Q r S1)) := MT.ofJ (by decide +kernel) (fun b => [(0, .ref (b + v0)), (1, .ref (b + v1)), (2, .int v2)]) (fun b => rfl) (fun b => Nat.le_of_ble_eq_true rfl) (fun l b D cy p e s m below meth c C hE hn => j_X4_fit C hE t_v0 t_v1 h)
theorem hd_X4_fit : yX4_fit.cls ≠ "java/lang/invoke/MethodHandle" ∧ yX4_fit.cls ≠ "java/lang/invoke/VarHandle" ∧ (parseMethodDescriptor yX4_fit.desc).map (fun d => d.parameters.length) = some 2 := by decide +kernel
abbrev rm_X10_fitted : Room := { frames := 6, cells := 0, slots := 0, locals := 157 }
set_option maxHeartbeats 4000000 in
set_option maxRecDepth 100000 in
theorem j_X10_fitted_19 {p : Program} {l : Launch} {e : Env} {s : State} {m : MethodId} {args : Array Value} {below : List Frame} {meth : Method} {c : Code} {b : Nat} {D : va_G} {cy : Nat → ClassId} {G : Gm} {v0 : Nat} {v1 : Int32} {S : St} {Q : Int32 → St → Prop} (C : CX p s m args meth c b D cy cX10_fitted RX10 2 (some .int)) (hE : s.heap.size + 0 ≤ b + G.2.2) (t_v0 : ok G 9 v0) (h : f_X10_fitted_19 G v0 v1 Q S) : J p l e rm_X10_fitted s m args below meth c b D cy 2 (zI b D cy below args s G Q) 0 0 G S 19 [(0, .ref (b + v0)), (1, .int v1)] [] := by
  unfold f_X10_fitted_19 at h
  refine jB C [(.aload_n 0, 1, 0)] 20 [(0, .ref (b + v0)), (1, .int v1)] [.ref (b + v0)] (by decide +kernel) rfl rfl ?_
  obtain ⟨a1, e_a1, h⟩ := h
  refine jGetR C 23 (by decide +kernel : decode cX10_fitted 20 = .ok (.getfield 56, 3)) rfl t_v0 kX10 7 (by decide) rfl rfl (by decide) wd_318 e_a1 rfl (fun t_a1 => ?_)
  refine jB C [(.aload_n 0, 1, 0)] 24 [(0, .ref (b + v0)), (1, .int v1)] [.ref (b + v0), .ref (b + a1)] (by decide +kernel) rfl rfl ?_
  obtain ⟨a2, e_a2, h⟩ := h
  refine jGetR C 27 (by decide +kernel : decode cX10_fitted 24 = .ok (.getfield 14, 3)) rfl t_v0 kX10 0 (by decide) rfl rfl (by decide) wd_311 e_a2 rfl (fun t_a2 => ?_)
  refine jB C [(.iload_n 1, 1, 0)] 28 [(0, .ref (b + v0)), (1, .int v1)] [.int v1, .ref (b + a2), .ref (b + a1)] (by decide +kernel) rfl rfl ?_
  refine jcVN_I C 31 (rest := []) (ok_X4_fit t_a1 t_a2 h) (by decide +kernel : decode cX10_fitted 28 = .ok (.invokevirtual 273, 3)) rfl wn_991 wd_993 wp_86 wd_8 wd_994 ⟨rfl, rfl⟩ hd_X4_fit ⟨Nat.le_of_ble_eq_true rfl, Nat.le_of_ble_eq_true rfl⟩ t_a1 kX4 (by decide) rfl rfl rfl (Nat.le_of_ble_eq_true rfl) ⟨Nat.zero_le _, Nat.zero_le _⟩ (fun r4 S3 h => ?_)
  exact jRetI C (by decide +kernel : decode cX10_fitted 31 = .ok (.ireturn, 1)) (Nat.le_refl _) (Nat.le_refl _) ⟨rfl, h⟩
set_option maxHeartbeats 4000000 in
set_option maxRecDepth 100000 in
theorem j_X10_fitted {p : Program} {l : Launch} {e : Env} {s : State} {m : MethodId} {args : Array Value} {below : List Frame} {meth : Method} {c : Code} {b : Nat} {D : va_G} {cy : Nat → ClassId} {G : Gm} {v0 : Nat} {v1 : Int32} {S : St} {Q : Int32 → St → Prop} (C : CX p s m args meth c b D cy cX10_fitted RX10 2 (some .int)) (hE : s.heap.size + 0 ≤ b + G.2.2) (t_v0 : ok G 9 v0) (h : f_X10_fitted G v0 v1 Q S) : J p l e rm_X10_fitted s m args below meth c b D cy 2 (zI b D cy below args s G Q) 0 0 G S 0 [(0, .ref (b + v0)), (1, .int v1)] [] := by
  unfold f_X10_fitted at h
  refine jB C [(.iload_n 1, 1, 0)] 1 [(0, .ref (b + v0)), (1, .int v1)] [.int v1] (by decide +kernel) rfl rfl ?_
  refine jIf_eq C 4 19 (by decide +kernel : decode cX10_fitted 1 = .ok (.ifCond .eq 18, 3)) rfl rfl (fun c1 => ?_) (fun c1 => ?_)
  · have h := it1 h c1
    refine jSub [0, 1] rfl ?_
    exact j_X10_fitted_19 C hE t_v0 h
  · have h := it2 h c1
    refine jB C [(.aload_n 0, 1, 0)] 5 [(0, .ref (b + v0)), (1, .int v1)] [.ref (b + v0)] (by decide +kernel) rfl rfl ?_
    obtain ⟨a2, e_a2, h⟩ := h
    refine jGetR C 8 (by decide +kernel : decode cX10_fitted 5 = .ok (.getfield 14, 3)) rfl t_v0 kX10 0 (by decide) rfl rfl (by decide) wd_311 e_a2 rfl (fun t_a2 => ?_)
    refine jB C [(.iload_n 1, 1, 0), (.iconst 1, 1, 1), (.isub, 1, 0)] 11 [(0, .ref (b + v0)), (1, .int v1)] [.int (v1 - 1), .ref (b + a2)] (by decide +kernel) rfl rfl ?_
    refine jcVN_I C 14 (rest := []) (ok_X5_has t_a2 h) (by decide +kernel : decode cX10_fitted 11 = .ok (.invokevirtual 92, 3)) rfl wn_395 wd_373 wp_4 wd_2 wd_374 ⟨rfl, rfl⟩ hd_X5_has ⟨Nat.le_of_ble_eq_true rfl, Nat.le_of_ble_eq_true rfl⟩ t_a2 kX5 (by decide) rfl rfl rfl (Nat.le_of_ble_eq_true rfl) ⟨Nat.zero_le _, Nat.zero_le _⟩ (fun r4 S3 h => ?_)
    refine jIf_ne C 17 19 (by decide +kernel : decode cX10_fitted 14 = .ok (.ifCond .ne 5, 3)) rfl rfl (fun c5 => ?_) (fun c5 => ?_)
    · have h := it2 h c5
      refine jSub [0, 1] rfl ?_
      exact j_X10_fitted_19 C hE t_v0 h
    · have h := it1 h c5
      refine jB C [(.iconst (-1), 1, (-1))] 18 [(0, .ref (b + v0)), (1, .int v1)] [.int (-1)] (by decide +kernel) rfl rfl ?_
      exact jRetI C (by decide +kernel : decode cX10_fitted 18 = .ok (.ireturn, 1)) (Nat.le_refl _) (Nat.le_refl _) ⟨rfl, h⟩
theorem ok_X10_fitted {G : Gm} {v0 : Nat} {v1 : Int32} {S : St} {Q : Int32 → St → Prop}  (t_v0 : ok G 9 v0) (h : f_X10_fitted G v0 v1 Q S) : MT yX10_fitted cX10_fitted 2 (some .int) rm_X10_fitted 0 0 (fun b => [.ref (b + v0), .int v1]) G S (QI (fun r G1 S1 => G1 = G ∧ Q r S1)) := MT.ofJ (by decide +kernel) (fun b => [(0, .ref (b + v0)), (1, .int v1)]) (fun b => rfl) (fun b => Nat.le_of_ble_eq_true rfl) (fun l b D cy p e s m below meth c C hE hn => j_X10_fitted C hE t_v0 h)
theorem hd_X10_fitted : yX10_fitted.cls ≠ "java/lang/invoke/MethodHandle" ∧ yX10_fitted.cls ≠ "java/lang/invoke/VarHandle" ∧ (parseMethodDescriptor yX10_fitted.desc).map (fun d => d.parameters.length) = some 1 := by decide +kernel
abbrev rm_X10_force : Room := { frames := 1, cells := 0, slots := 0, locals := 21 }
set_option maxHeartbeats 4000000 in
set_option maxRecDepth 100000 in
theorem j_X10_force_23 {p : Program} {l : Launch} {e : Env} {s : State} {m : MethodId} {args : Array Value} {below : List Frame} {meth : Method} {c : Code} {b : Nat} {D : va_G} {cy : Nat → ClassId} {G : Gm} {v0 : Nat} {v1 : Int32} {S : St} {Q : Int32 → St → Prop} (C : CX p s m args meth c b D cy cX10_force RX10 3 (some .int)) (hE : s.heap.size + 0 ≤ b + G.2.2) (t_v0 : ok G 9 v0) (h : f_X10_force_23 G v0 v1 Q S) : J p l e rm_X10_force s m args below meth c b D cy 3 (zI b D cy below args s G Q) 0 0 G S 23 [(0, .ref (b + v0)), (1, .int v1)] [] := by
  unfold f_X10_force_23 at h
  refine jB C [(.aload_n 0, 1, 0)] 24 [(0, .ref (b + v0)), (1, .int v1)] [.ref (b + v0)] (by decide +kernel) rfl rfl ?_
  obtain ⟨a1, e_a1, h⟩ := h
  refine jGetR C 27 (by decide +kernel : decode cX10_force 24 = .ok (.getfield 14, 3)) rfl t_v0 kX10 0 (by decide) rfl rfl (by decide) wd_311 e_a1 rfl (fun t_a1 => ?_)
  refine jGetIN C 30 (by decide +kernel : decode cX10_force 27 = .ok (.getfield 236, 3)) rfl t_a1 kX5 10 (by decide) rfl rfl (by decide) wn_57 ?_
  refine jTopI (fun x2 e_x2 => ?_)
  have h := h x2 e_x2
  refine jB C [(.istore_n 2, 1, 0), (.aload_n 0, 1, 0)] 32 [(2, .int x2), (0, .ref (b + v0)), (1, .int v1)] [.ref (b + v0)] (by decide +kernel) rfl rfl ?_
  obtain ⟨a3, e_a3, h⟩ := h
  refine jGetR C 35 (by decide +kernel : decode cX10_force 32 = .ok (.getfield 14, 3)) rfl t_v0 kX10 0 (by decide) rfl rfl (by decide) wd_311 e_a3 rfl (fun t_a3 => ?_)
  refine jB C [(.iload_n 1, 1, 0)] 36 [(2, .int x2), (0, .ref (b + v0)), (1, .int v1)] [.int v1, .ref (b + a3)] (by decide +kernel) rfl rfl ?_
  refine jPutIN C 39 (by decide +kernel : decode cX10_force 36 = .ok (.putfield 236, 3)) rfl hE t_a3 kX5 10 (by decide) rfl rfl (by decide) rfl wn_57 rfl rfl rfl ?_
  refine jTopS (fun S4 e_S4 => ?_)
  have h := h S4 e_S4
  refine jB C [(.aload_n 0, 1, 0), (.iload_n 2, 1, 0)] 41 [(2, .int x2), (0, .ref (b + v0)), (1, .int v1)] [.int x2, .ref (b + v0)] (by decide +kernel) rfl rfl ?_
  refine jcV_I C 44 (rest := []) (ok_X10_accept t_v0 h) (by decide +kernel : decode cX10_force 41 = .ok (.invokevirtual 89, 3)) rfl wd_387 wd_389 wp_7 wd_1 wd_390 ⟨rfl, rfl⟩ hd_X10_accept ⟨Nat.le_of_ble_eq_true rfl, Nat.le_of_ble_eq_true rfl⟩ t_v0 kX10 (by decide) rfl rfl rfl (Nat.le_of_ble_eq_true rfl) ⟨Nat.zero_le _, Nat.zero_le _⟩ (fun r6 S5 h => ?_)
  exact jRetI C (by decide +kernel : decode cX10_force 44 = .ok (.ireturn, 1)) (Nat.le_refl _) (Nat.le_refl _) ⟨rfl, h⟩
set_option maxHeartbeats 4000000 in
set_option maxRecDepth 100000 in
theorem j_X10_force {p : Program} {l : Launch} {e : Env} {s : State} {m : MethodId} {args : Array Value} {below : List Frame} {meth : Method} {c : Code} {b : Nat} {D : va_G} {cy : Nat → ClassId} {G : Gm} {v0 : Nat} {v1 : Int32} {S : St} {Q : Int32 → St → Prop} (C : CX p s m args meth c b D cy cX10_force RX10 3 (some .int)) (hE : s.heap.size + 0 ≤ b + G.2.2) (t_v0 : ok G 9 v0) (h : f_X10_force G v0 v1 Q S) : J p l e rm_X10_force s m args below meth c b D cy 3 (zI b D cy below args s G Q) 0 0 G S 0 [(0, .ref (b + v0)), (1, .int v1)] [] := by
  unfold f_X10_force at h
  refine jB C [(.iload_n 1, 1, 0), (.iconst (-1), 1, (-1))] 2 [(0, .ref (b + v0)), (1, .int v1)] [.int (-1), .int v1] (by decide +kernel) rfl rfl ?_
  refine jIcmp_eq C 5 23 (by decide +kernel : decode cX10_force 2 = .ok (.if_icmp .eq 21, 3)) rfl rfl (fun c1 => ?_) (fun c1 => ?_)
  · have h := it1 h c1
    refine jSub [0, 1] rfl ?_
    exact j_X10_force_23 C hE t_v0 h
  · have h := it2 h c1
    refine jB C [(.aload_n 0, 1, 0)] 6 [(0, .ref (b + v0)), (1, .int v1)] [.ref (b + v0)] (by decide +kernel) rfl rfl ?_
    obtain ⟨a2, e_a2, h⟩ := h
    refine jGetR C 9 (by decide +kernel : decode cX10_force 6 = .ok (.getfield 14, 3)) rfl t_v0 kX10 0 (by decide) rfl rfl (by decide) wd_311 e_a2 rfl (fun t_a2 => ?_)
    refine jB C [(.iload_n 1, 1, 0)] 10 [(0, .ref (b + v0)), (1, .int v1)] [.int v1, .ref (b + a2)] (by decide +kernel) rfl rfl ?_
    refine jcVN_I C 13 (rest := []) (ok_X5_hasLaw t_a2 h) (by decide +kernel : decode cX10_force 10 = .ok (.invokevirtual 233, 3)) rfl wn_878 wd_455 wp_17 wd_2 wd_456 ⟨rfl, rfl⟩ hd_X5_hasLaw ⟨Nat.le_of_ble_eq_true rfl, Nat.le_of_ble_eq_true rfl⟩ t_a2 kX5 (by decide) rfl rfl rfl (Nat.le_of_ble_eq_true rfl) ⟨Nat.zero_le _, Nat.zero_le _⟩ (fun r4 S3 h => ?_)
    refine jIf_ne C 16 23 (by decide +kernel : decode cX10_force 13 = .ok (.ifCond .ne 10, 3)) rfl rfl (fun c5 => ?_) (fun c5 => ?_)
    · have h := it2 h c5
      refine jSub [0, 1] rfl ?_
      exact j_X10_force_23 C hE t_v0 h
    · have h := it1 h c5
      refine jB C [(.aload_n 0, 1, 0), (.bipush (-2), 2, (-2))] 19 [(0, .ref (b + v0)), (1, .int v1)] [.int (-2), .ref (b + v0)] (by decide +kernel) rfl rfl ?_
      refine jcV_I C 22 (rest := []) (ok_X10_refuse t_v0 h) (by decide +kernel : decode cX10_force 19 = .ok (.invokevirtual 78, 3)) rfl wd_355 wd_357 wp_0 wd_1 wd_358 ⟨rfl, rfl⟩ hd_X10_refuse ⟨Nat.le_of_ble_eq_true rfl, Nat.le_of_ble_eq_true rfl⟩ t_v0 kX10 (by decide) rfl rfl rfl (Nat.le_of_ble_eq_true rfl) ⟨Nat.zero_le _, Nat.zero_le _⟩ (fun r7 S6 h => ?_)
      exact jRetI C (by decide +kernel : decode cX10_force 22 = .ok (.ireturn, 1)) (Nat.le_refl _) (Nat.le_refl _) ⟨rfl, h⟩
theorem ok_X10_force {G : Gm} {v0 : Nat} {v1 : Int32} {S : St} {Q : Int32 → St → Prop}  (t_v0 : ok G 9 v0) (h : f_X10_force G v0 v1 Q S) : MT yX10_force cX10_force 3 (some .int) rm_X10_force 0 0 (fun b => [.ref (b + v0), .int v1]) G S (QI (fun r G1 S1 => G1 = G ∧ Q r S1)) := MT.ofJ (by decide +kernel) (fun b => [(0, .ref (b + v0)), (1, .int v1)]) (fun b => rfl) (fun b => Nat.le_of_ble_eq_true rfl) (fun l b D cy p e s m below meth c C hE hn => j_X10_force C hE t_v0 h)
theorem hd_X10_force : yX10_force.cls ≠ "java/lang/invoke/MethodHandle" ∧ yX10_force.cls ≠ "java/lang/invoke/VarHandle" ∧ (parseMethodDescriptor yX10_force.desc).map (fun d => d.parameters.length) = some 1 := by decide +kernel
abbrev rm_X10_forget : Room := { frames := 0, cells := 0, slots := 0, locals := 0 }
set_option maxHeartbeats 4000000 in
set_option maxRecDepth 100000 in
theorem j_X10_forget {p : Program} {l : Launch} {e : Env} {s : State} {m : MethodId} {args : Array Value} {below : List Frame} {meth : Method} {c : Code} {b : Nat} {D : va_G} {cy : Nat → ClassId} {G : Gm} {v0 : Nat} {S : St} {Q : Int32 → St → Prop} (C : CX p s m args meth c b D cy cX10_forget RX10 2 (some .int)) (hE : s.heap.size + 0 ≤ b + G.2.2) (t_v0 : ok G 9 v0) (h : f_X10_forget G v0 Q S) : J p l e rm_X10_forget s m args below meth c b D cy 2 (zI b D cy below args s G Q) 0 0 G S 0 [(0, .ref (b + v0))] [] := by
  unfold f_X10_forget at h
  refine jB C [(.aload_n 0, 1, 0)] 1 [(0, .ref (b + v0))] [.ref (b + v0)] (by decide +kernel) rfl rfl ?_
  obtain ⟨a1, e_a1, h⟩ := h
  refine jGetR C 4 (by decide +kernel : decode cX10_forget 1 = .ok (.getfield 14, 3)) rfl t_v0 kX10 0 (by decide) rfl rfl (by decide) wd_311 e_a1 rfl (fun t_a1 => ?_)
  refine jGetIN C 7 (by decide +kernel : decode cX10_forget 4 = .ok (.getfield 256, 3)) rfl t_a1 kX5 5 (by decide) rfl rfl (by decide) wn_48 ?_
  refine jTopI (fun x2 e_x2 => ?_)
  have h := h x2 e_x2
  refine jB C [(.istore_n 1, 1, 0), (.aload_n 0, 1, 0)] 9 [(1, .int x2), (0, .ref (b + v0))] [.ref (b + v0)] (by decide +kernel) rfl rfl ?_
  obtain ⟨a3, e_a3, h⟩ := h
  refine jGetR C 12 (by decide +kernel : decode cX10_forget 9 = .ok (.getfield 14, 3)) rfl t_v0 kX10 0 (by decide) rfl rfl (by decide) wd_311 e_a3 rfl (fun t_a3 => ?_)
  refine jB C [(.iconst 0, 1, 0)] 13 [(1, .int x2), (0, .ref (b + v0))] [.int 0, .ref (b + a3)] (by decide +kernel) rfl rfl ?_
  refine jPutIN C 16 (by decide +kernel : decode cX10_forget 13 = .ok (.putfield 256, 3)) rfl hE t_a3 kX5 5 (by decide) rfl rfl (by decide) rfl wn_48 rfl rfl rfl ?_
  refine jTopS (fun S4 e_S4 => ?_)
  have h := h S4 e_S4
  refine jB C [(.iload_n 1, 1, 0)] 17 [(1, .int x2), (0, .ref (b + v0))] [.int x2] (by decide +kernel) rfl rfl ?_
  exact jRetI C (by decide +kernel : decode cX10_forget 17 = .ok (.ireturn, 1)) (Nat.le_refl _) (Nat.le_refl _) ⟨rfl, h⟩
theorem ok_X10_forget {G : Gm} {v0 : Nat} {S : St} {Q : Int32 → St → Prop}  (t_v0 : ok G 9 v0) (h : f_X10_forget G v0 Q S) : MT yX10_forget cX10_forget 2 (some .int) rm_X10_forget 0 0 (fun b => [.ref (b + v0)]) G S (QI (fun r G1 S1 => G1 = G ∧ Q r S1)) := MT.ofJ (by decide +kernel) (fun b => [(0, .ref (b + v0))]) (fun b => rfl) (fun b => Nat.le_of_ble_eq_true rfl) (fun l b D cy p e s m below meth c C hE hn => j_X10_forget C hE t_v0 h)
theorem hd_X10_forget : yX10_forget.cls ≠ "java/lang/invoke/MethodHandle" ∧ yX10_forget.cls ≠ "java/lang/invoke/VarHandle" ∧ (parseMethodDescriptor yX10_forget.desc).map (fun d => d.parameters.length) = some 0 := by decide +kernel
abbrev rm_X10_glass : Room := { frames := 2, cells := 0, slots := 0, locals := 43 }
set_option maxHeartbeats 4000000 in
set_option maxRecDepth 100000 in
theorem j_X10_glass {p : Program} {l : Launch} {e : Env} {s : State} {m : MethodId} {args : Array Value} {below : List Frame} {meth : Method} {c : Code} {b : Nat} {D : va_G} {cy : Nat → ClassId} {G : Gm} {v0 : Nat} {v1 : Int32} {v2 : Int32} {S : St} {Q : Int32 → St → Prop} (C : CX p s m args meth c b D cy cX10_glass RX10 4 (some .int)) (hE : s.heap.size + 0 ≤ b + G.2.2) (t_v0 : ok G 9 v0) (h : f_X10_glass G v0 v1 v2 Q S) : J p l e rm_X10_glass s m args below meth c b D cy 4 (zI b D cy below args s G Q) 0 0 G S 0 [(0, .ref (b + v0)), (1, .int v1), (2, .int v2)] [] := by
  unfold f_X10_glass at h
  refine jB C [(.iload_n 2, 1, 0)] 1 [(0, .ref (b + v0)), (1, .int v1), (2, .int v2)] [.int v2] (by decide +kernel) rfl rfl ?_
  refine jcSN_I C 4 (rest := []) (ok_X3_lensesIn h) (by decide +kernel : decode cX10_glass 1 = .ok (.invokestatic 108, 3)) rfl wn_410 wd_408 wd_13 wd_409 ⟨rfl, rfl⟩ hd_X3_lensesIn ⟨Nat.le_of_ble_eq_true rfl, Nat.le_of_ble_eq_true rfl⟩ rfl rfl (Nat.le_of_ble_eq_true rfl) ⟨Nat.zero_le _, Nat.zero_le _⟩ (fun r2 S1 h => ?_)
  refine jB C [(.istore_n 3, 1, 0), (.iload_n 3, 1, 0), (.iconst (-1), 1, (-1))] 7 [(3, .int r2), (0, .ref (b + v0)), (1, .int v1), (2, .int v2)] [.int (-1), .int r2] (by decide +kernel) rfl rfl ?_
  refine jIcmp_ne C 10 16 (by decide +kernel : decode cX10_glass 7 = .ok (.if_icmp .ne 9, 3)) rfl rfl (fun c3 => ?_) (fun c3 => ?_)
  · have h := it2 h c3
    refine jB C [(.aload_n 0, 1, 0)] 17 [(3, .int r2), (0, .ref (b + v0)), (1, .int v1), (2, .int v2)] [.ref (b + v0)] (by decide +kernel) rfl rfl ?_
    obtain ⟨a4, e_a4, h⟩ := h
    refine jGetR C 20 (by decide +kernel : decode cX10_glass 17 = .ok (.getfield 14, 3)) rfl t_v0 kX10 0 (by decide) rfl rfl (by decide) wd_311 e_a4 rfl (fun t_a4 => ?_)
    refine jB C [(.iload_n 1, 1, 0)] 21 [(3, .int r2), (0, .ref (b + v0)), (1, .int v1), (2, .int v2)] [.int v1, .ref (b + a4)] (by decide +kernel) rfl rfl ?_
    refine jcVN_I C 24 (rest := []) (ok_X5_has t_a4 h) (by decide +kernel : decode cX10_glass 21 = .ok (.invokevirtual 92, 3)) rfl wn_395 wd_373 wp_4 wd_2 wd_374 ⟨rfl, rfl⟩ hd_X5_has ⟨Nat.le_of_ble_eq_true rfl, Nat.le_of_ble_eq_true rfl⟩ t_a4 kX5 (by decide) rfl rfl rfl (Nat.le_of_ble_eq_true rfl) ⟨Nat.zero_le _, Nat.zero_le _⟩ (fun r6 S5 h => ?_)
    refine jIf_ne C 27 34 (by decide +kernel : decode cX10_glass 24 = .ok (.ifCond .ne 10, 3)) rfl rfl (fun c7 => ?_) (fun c7 => ?_)
    · have h := it2 h c7
      refine jB C [(.aload_n 0, 1, 0)] 35 [(3, .int r2), (0, .ref (b + v0)), (1, .int v1), (2, .int v2)] [.ref (b + v0)] (by decide +kernel) rfl rfl ?_
      obtain ⟨a8, e_a8, h⟩ := h
      refine jGetR C 38 (by decide +kernel : decode cX10_glass 35 = .ok (.getfield 28, 3)) rfl t_v0 kX10 3 (by decide) rfl rfl (by decide) wd_314 e_a8 rfl (fun t_a8 => ?_)
      refine jcVN_V C 41 (rest := []) (ok_X9_empty t_a8 h) (by decide +kernel : decode cX10_glass 38 = .ok (.invokevirtual 82, 3)) rfl wn_359 wd_361 wp_1 wd_3 wd_362 ⟨rfl, rfl⟩ hd_X9_empty ⟨Nat.le_of_ble_eq_true rfl, Nat.le_of_ble_eq_true rfl⟩ t_a8 kX9 (by decide) rfl rfl rfl (Nat.le_of_ble_eq_true rfl) ⟨Nat.zero_le _, Nat.zero_le _⟩ (fun S9 h => ?_)
      refine jB C [(.aload_n 0, 1, 0)] 42 [(3, .int r2), (0, .ref (b + v0)), (1, .int v1), (2, .int v2)] [.ref (b + v0)] (by decide +kernel) rfl rfl ?_
      obtain ⟨a10, e_a10, h⟩ := h
      refine jGetR C 45 (by decide +kernel : decode cX10_glass 42 = .ok (.getfield 14, 3)) rfl t_v0 kX10 0 (by decide) rfl rfl (by decide) wd_311 e_a10 rfl (fun t_a10 => ?_)
      refine jB C [(.iload_n 1, 1, 0), (.iload_n 2, 1, 0)] 47 [(3, .int r2), (0, .ref (b + v0)), (1, .int v1), (2, .int v2)] [.int v2, .int v1, .ref (b + a10)] (by decide +kernel) rfl rfl ?_
      refine jcVN_V C 50 (rest := []) (ok_X5_setGlass t_a10 h) (by decide +kernel : decode cX10_glass 47 = .ok (.invokevirtual 139, 3)) rfl wn_517 wd_381 wp_5 wd_2 wd_382 ⟨rfl, rfl⟩ hd_X5_setGlass ⟨Nat.le_of_ble_eq_true rfl, Nat.le_of_ble_eq_true rfl⟩ t_a10 kX5 (by decide) rfl rfl rfl (Nat.le_of_ble_eq_true rfl) ⟨Nat.zero_le _, Nat.zero_le _⟩ (fun S11 h => ?_)
      refine jB C [(.aload_n 0, 1, 0), (.iload_n 3, 1, 0)] 52 [(3, .int r2), (0, .ref (b + v0)), (1, .int v1), (2, .int v2)] [.int r2, .ref (b + v0)] (by decide +kernel) rfl rfl ?_
      refine jcV_I C 55 (rest := []) (ok_X10_accept t_v0 h) (by decide +kernel : decode cX10_glass 52 = .ok (.invokevirtual 89, 3)) rfl wd_387 wd_389 wp_7 wd_1 wd_390 ⟨rfl, rfl⟩ hd_X10_accept ⟨Nat.le_of_ble_eq_true rfl, Nat.le_of_ble_eq_true rfl⟩ t_v0 kX10 (by decide) rfl rfl rfl (Nat.le_of_ble_eq_true rfl) ⟨Nat.zero_le _, Nat.zero_le _⟩ (fun r13 S12 h => ?_)
      exact jRetI C (by decide +kernel : decode cX10_glass 55 = .ok (.ireturn, 1)) (Nat.le_refl _) (Nat.le_refl _) ⟨rfl, h⟩
    · have h := it1 h c7
      refine jB C [(.aload_n 0, 1, 0), (.bipush (-2), 2, (-2))] 30 [(3, .int r2), (0, .ref (b + v0)), (1, .int v1), (2, .int v2)] [.int (-2), .ref (b + v0)] (by decide +kernel) rfl rfl ?_
      refine jcV_I C 33 (rest := []) (ok_X10_refuse t_v0 h) (by decide +kernel : decode cX10_glass 30 = .ok (.invokevirtual 78, 3)) rfl wd_355 wd_357 wp_0 wd_1 wd_358 ⟨rfl, rfl⟩ hd_X10_refuse ⟨Nat.le_of_ble_eq_true rfl, Nat.le_of_ble_eq_true rfl⟩ t_v0 kX10 (by decide) rfl rfl rfl (Nat.le_of_ble_eq_true rfl) ⟨Nat.zero_le _, Nat.zero_le _⟩ (fun r15 S14 h => ?_)
      exact jRetI C (by decide +kernel : decode cX10_glass 33 = .ok (.ireturn, 1)) (Nat.le_refl _) (Nat.le_refl _) ⟨rfl, h⟩
  · have h := it1 h c3
    refine jB C [(.aload_n 0, 1, 0), (.iconst (-1), 1, (-1))] 12 [(3, .int r2), (0, .ref (b + v0)), (1, .int v1), (2, .int v2)] [.int (-1), .ref (b + v0)] (by decide +kernel) rfl rfl ?_
    refine jcV_I C 15 (rest := []) (ok_X10_refuse t_v0 h) (by decide +kernel : decode cX10_glass 12 = .ok (.invokevirtual 78, 3)) rfl wd_355 wd_357 wp_0 wd_1 wd_358 ⟨rfl, rfl⟩ hd_X10_refuse ⟨Nat.le_of_ble_eq_true rfl, Nat.le_of_ble_eq_true rfl⟩ t_v0 kX10 (by decide) rfl rfl rfl (Nat.le_of_ble_eq_true rfl) ⟨Nat.zero_le _, Nat.zero_le _⟩ (fun r17 S16 h => ?_)
    exact jRetI C (by decide +kernel : decode cX10_glass 15 = .ok (.ireturn, 1)) (Nat.le_refl _) (Nat.le_refl _) ⟨rfl, h⟩
theorem ok_X10_glass {G : Gm} {v0 : Nat} {v1 : Int32} {v2 : Int32} {S : St} {Q : Int32 → St → Prop}  (t_v0 : ok G 9 v0) (h : f_X10_glass G v0 v1 v2 Q S) : MT yX10_glass cX10_glass 4 (some .int) rm_X10_glass 0 0 (fun b => [.ref (b + v0), .int v1, .int v2]) G S (QI (fun r G1 S1 => G1 = G ∧ Q r S1)) := MT.ofJ (by decide +kernel) (fun b => [(0, .ref (b + v0)), (1, .int v1), (2, .int v2)]) (fun b => rfl) (fun b => Nat.le_of_ble_eq_true rfl) (fun l b D cy p e s m below meth c C hE hn => j_X10_glass C hE t_v0 h)
theorem hd_X10_glass : yX10_glass.cls ≠ "java/lang/invoke/MethodHandle" ∧ yX10_glass.cls ≠ "java/lang/invoke/VarHandle" ∧ (parseMethodDescriptor yX10_glass.desc).map (fun d => d.parameters.length) = some 2 := by decide +kernel
abbrev rm_X10_grind : Room := { frames := 6, cells := 0, slots := 0, locals := 160 }
set_option maxHeartbeats 4000000 in
set_option maxRecDepth 100000 in
theorem j_X10_grind {p : Program} {l : Launch} {e : Env} {s : State} {m : MethodId} {args : Array Value} {below : List Frame} {meth : Method} {c : Code} {b : Nat} {D : va_G} {cy : Nat → ClassId} {G : Gm} {v0 : Nat} {v1 : Int32} {S : St} {Q : Int32 → St → Prop} (C : CX p s m args meth c b D cy cX10_grind RX10 2 (some .int)) (hE : s.heap.size + 0 ≤ b + G.2.2) (t_v0 : ok G 9 v0) (h : f_X10_grind G v0 v1 Q S) : J p l e rm_X10_grind s m args below meth c b D cy 2 (zI b D cy below args s G Q) 0 0 G S 0 [(0, .ref (b + v0)), (1, .int v1)] [] := by
  unfold f_X10_grind at h
  refine jB C [(.aload_n 0, 1, 0), (.aload_n 0, 1, 0)] 2 [(0, .ref (b + v0)), (1, .int v1)] [.ref (b + v0), .ref (b + v0)] (by decide +kernel) rfl rfl ?_
  obtain ⟨a1, e_a1, h⟩ := h
  refine jGetR C 5 (by decide +kernel : decode cX10_grind 2 = .ok (.getfield 42, 3)) rfl t_v0 kX10 5 (by decide) rfl rfl (by decide) wd_316 e_a1 rfl (fun t_a1 => ?_)
  refine jB C [(.aload_n 0, 1, 0)] 6 [(0, .ref (b + v0)), (1, .int v1)] [.ref (b + v0), .ref (b + a1), .ref (b + v0)] (by decide +kernel) rfl rfl ?_
  obtain ⟨a2, e_a2, h⟩ := h
  refine jGetR C 9 (by decide +kernel : decode cX10_grind 6 = .ok (.getfield 14, 3)) rfl t_v0 kX10 0 (by decide) rfl rfl (by decide) wd_311 e_a2 rfl (fun t_a2 => ?_)
  refine jB C [(.aload_n 0, 1, 0)] 10 [(0, .ref (b + v0)), (1, .int v1)] [.ref (b + v0), .ref (b + a2), .ref (b + a1), .ref (b + v0)] (by decide +kernel) rfl rfl ?_
  obtain ⟨a3, e_a3, h⟩ := h
  refine jGetR C 13 (by decide +kernel : decode cX10_grind 10 = .ok (.getfield 28, 3)) rfl t_v0 kX10 3 (by decide) rfl rfl (by decide) wd_314 e_a3 rfl (fun t_a3 => ?_)
  refine jB C [(.iconst 1, 1, 1), (.iload_n 1, 1, 0), (.iconst 0, 1, 0), (.iconst 0, 1, 0)] 17 [(0, .ref (b + v0)), (1, .int v1)] [.int 0, .int 0, .int v1, .int 1, .ref (b + a3), .ref (b + a2), .ref (b + a1), .ref (b + v0)] (by decide +kernel) rfl rfl ?_
  refine jcVN_I C 20 (rest := [.ref (b + v0)]) (ok_X1_act t_a1 t_a2 t_a3 h) (by decide +kernel : decode cX10_grind 17 = .ok (.invokevirtual 239, 3)) rfl wn_883 wd_817 wp_69 wd_6 wd_818 ⟨rfl, rfl⟩ hd_X1_act ⟨Nat.le_of_ble_eq_true rfl, Nat.le_of_ble_eq_true rfl⟩ t_a1 kX1 (by decide) rfl rfl rfl (Nat.le_of_ble_eq_true rfl) ⟨Nat.zero_le _, Nat.zero_le _⟩ (fun r5 S4 h => ?_)
  refine jcV_I C 23 (rest := []) (ok_X10_judged t_v0 h) (by decide +kernel : decode cX10_grind 20 = .ok (.invokevirtual 243, 3)) rfl wd_884 wd_886 wp_75 wd_1 wd_887 ⟨rfl, rfl⟩ hd_X10_judged ⟨Nat.le_of_ble_eq_true rfl, Nat.le_of_ble_eq_true rfl⟩ t_v0 kX10 (by decide) rfl rfl rfl (Nat.le_of_ble_eq_true rfl) ⟨Nat.zero_le _, Nat.zero_le _⟩ (fun r7 S6 h => ?_)
  exact jRetI C (by decide +kernel : decode cX10_grind 23 = .ok (.ireturn, 1)) (Nat.le_refl _) (Nat.le_refl _) ⟨rfl, h⟩
theorem ok_X10_grind {G : Gm} {v0 : Nat} {v1 : Int32} {S : St} {Q : Int32 → St → Prop}  (t_v0 : ok G 9 v0) (h : f_X10_grind G v0 v1 Q S) : MT yX10_grind cX10_grind 2 (some .int) rm_X10_grind 0 0 (fun b => [.ref (b + v0), .int v1]) G S (QI (fun r G1 S1 => G1 = G ∧ Q r S1)) := MT.ofJ (by decide +kernel) (fun b => [(0, .ref (b + v0)), (1, .int v1)]) (fun b => rfl) (fun b => Nat.le_of_ble_eq_true rfl) (fun l b D cy p e s m below meth c C hE hn => j_X10_grind C hE t_v0 h)
theorem hd_X10_grind : yX10_grind.cls ≠ "java/lang/invoke/MethodHandle" ∧ yX10_grind.cls ≠ "java/lang/invoke/VarHandle" ∧ (parseMethodDescriptor yX10_grind.desc).map (fun d => d.parameters.length) = some 1 := by decide +kernel
abbrev rm_X10_ground : Room := { frames := 5, cells := 0, slots := 0, locals := 133 }
set_option maxHeartbeats 4000000 in
set_option maxRecDepth 100000 in
theorem j_X10_ground_29 {p : Program} {l : Launch} {e : Env} {s : State} {m : MethodId} {args : Array Value} {below : List Frame} {meth : Method} {c : Code} {b : Nat} {D : va_G} {cy : Nat → ClassId} {G : Gm} {v0 : Nat} {v1 : Int32} {v2 : Int32} {S : St} {Q : Int32 → St → Prop} (C : CX p s m args meth c b D cy cX10_ground RX10 3 (some .int)) (hE : s.heap.size + 0 ≤ b + G.2.2) (t_v0 : ok G 9 v0) (h : f_X10_ground_29 G v0 v1 v2 Q S) : J p l e rm_X10_ground s m args below meth c b D cy 3 (zI b D cy below args s G Q) 0 0 G S 29 [(0, .ref (b + v0)), (1, .int v1), (2, .int v2)] [] := by
  unfold f_X10_ground_29 at h
  refine jB C [(.aload_n 0, 1, 0)] 30 [(0, .ref (b + v0)), (1, .int v1), (2, .int v2)] [.ref (b + v0)] (by decide +kernel) rfl rfl ?_
  obtain ⟨a1, e_a1, h⟩ := h
  refine jGetR C 33 (by decide +kernel : decode cX10_ground 30 = .ok (.getfield 35, 3)) rfl t_v0 kX10 4 (by decide) rfl rfl (by decide) wd_315 e_a1 rfl (fun t_a1 => ?_)
  refine jB C [(.aload_n 0, 1, 0)] 34 [(0, .ref (b + v0)), (1, .int v1), (2, .int v2)] [.ref (b + v0), .ref (b + a1)] (by decide +kernel) rfl rfl ?_
  obtain ⟨a2, e_a2, h⟩ := h
  refine jGetR C 37 (by decide +kernel : decode cX10_ground 34 = .ok (.getfield 14, 3)) rfl t_v0 kX10 0 (by decide) rfl rfl (by decide) wd_311 e_a2 rfl (fun t_a2 => ?_)
  refine jB C [(.aload_n 0, 1, 0)] 38 [(0, .ref (b + v0)), (1, .int v1), (2, .int v2)] [.ref (b + v0), .ref (b + a2), .ref (b + a1)] (by decide +kernel) rfl rfl ?_
  obtain ⟨a3, e_a3, h⟩ := h
  refine jGetR C 41 (by decide +kernel : decode cX10_ground 38 = .ok (.getfield 14, 3)) rfl t_v0 kX10 0 (by decide) rfl rfl (by decide) wd_311 e_a3 rfl (fun t_a3 => ?_)
  refine jB C [(.iload_n 1, 1, 0)] 42 [(0, .ref (b + v0)), (1, .int v1), (2, .int v2)] [.int v1, .ref (b + a3), .ref (b + a2), .ref (b + a1)] (by decide +kernel) rfl rfl ?_
  refine jcVN_O C 45 (rest := [.ref (b + a2), .ref (b + a1)]) (ok_X5_lawAt t_a3 h) (by decide +kernel : decode cX10_ground 42 = .ok (.invokevirtual 283, 3)) rfl wn_1058 wd_451 wp_16 wd_2 wd_452 ⟨rfl, rfl⟩ hd_X5_lawAt ⟨Nat.le_of_ble_eq_true rfl, Nat.le_of_ble_eq_true rfl⟩ t_a3 kX5 (by decide) rfl rfl rfl (Nat.le_of_ble_eq_true rfl) ⟨Nat.zero_le _, Nat.zero_le _⟩ (fun r5 S4 h => ?_)
  obtain ⟨t6, h⟩ := h
  refine jB C [(.iload_n 2, 1, 0)] 46 [(0, .ref (b + v0)), (1, .int v1), (2, .int v2)] [.int v2, rv b r5, .ref (b + a2), .ref (b + a1)] (by decide +kernel) rfl rfl ?_
  refine jcVN_I C 49 (rest := []) (ok_X2_glassBy t_a1 t_a2 t6 h) (by decide +kernel : decode cX10_ground 46 = .ok (.invokevirtual 287, 3)) rfl wn_1059 wd_845 wp_72 wd_4 wd_846 ⟨rfl, rfl⟩ hd_X2_glassBy ⟨Nat.le_of_ble_eq_true rfl, Nat.le_of_ble_eq_true rfl⟩ t_a1 kX2 (by decide) rfl rfl rfl (Nat.le_of_ble_eq_true rfl) ⟨Nat.zero_le _, Nat.zero_le _⟩ (fun r8 S7 h => ?_)
  refine jcSN_I C 52 (rest := []) (ok_X3_lensesIn h) (by decide +kernel : decode cX10_ground 49 = .ok (.invokestatic 108, 3)) rfl wn_410 wd_408 wd_13 wd_409 ⟨rfl, rfl⟩ hd_X3_lensesIn ⟨Nat.le_of_ble_eq_true rfl, Nat.le_of_ble_eq_true rfl⟩ rfl rfl (Nat.le_of_ble_eq_true rfl) ⟨Nat.zero_le _, Nat.zero_le _⟩ (fun r10 S9 h => ?_)
  exact jRetI C (by decide +kernel : decode cX10_ground 52 = .ok (.ireturn, 1)) (Nat.le_refl _) (Nat.le_refl _) ⟨rfl, h⟩
set_option maxHeartbeats 4000000 in
set_option maxRecDepth 100000 in
theorem j_X10_ground {p : Program} {l : Launch} {e : Env} {s : State} {m : MethodId} {args : Array Value} {below : List Frame} {meth : Method} {c : Code} {b : Nat} {D : va_G} {cy : Nat → ClassId} {G : Gm} {v0 : Nat} {v1 : Int32} {v2 : Int32} {S : St} {Q : Int32 → St → Prop} (C : CX p s m args meth c b D cy cX10_ground RX10 3 (some .int)) (hE : s.heap.size + 0 ≤ b + G.2.2) (t_v0 : ok G 9 v0) (h : f_X10_ground G v0 v1 v2 Q S) : J p l e rm_X10_ground s m args below meth c b D cy 3 (zI b D cy below args s G Q) 0 0 G S 0 [(0, .ref (b + v0)), (1, .int v1), (2, .int v2)] [] := by
  unfold f_X10_ground at h
  refine jB C [(.aload_n 0, 1, 0)] 1 [(0, .ref (b + v0)), (1, .int v1), (2, .int v2)] [.ref (b + v0)] (by decide +kernel) rfl rfl ?_
  obtain ⟨a1, e_a1, h⟩ := h
  refine jGetR C 4 (by decide +kernel : decode cX10_ground 1 = .ok (.getfield 14, 3)) rfl t_v0 kX10 0 (by decide) rfl rfl (by decide) wd_311 e_a1 rfl (fun t_a1 => ?_)
  refine jB C [(.iload_n 2, 1, 0)] 5 [(0, .ref (b + v0)), (1, .int v1), (2, .int v2)] [.int v2, .ref (b + a1)] (by decide +kernel) rfl rfl ?_
  refine jcVN_I C 8 (rest := []) (ok_X5_has t_a1 h) (by decide +kernel : decode cX10_ground 5 = .ok (.invokevirtual 92, 3)) rfl wn_395 wd_373 wp_4 wd_2 wd_374 ⟨rfl, rfl⟩ hd_X5_has ⟨Nat.le_of_ble_eq_true rfl, Nat.le_of_ble_eq_true rfl⟩ t_a1 kX5 (by decide) rfl rfl rfl (Nat.le_of_ble_eq_true rfl) ⟨Nat.zero_le _, Nat.zero_le _⟩ (fun r3 S2 h => ?_)
  refine jIf_eq C 11 27 (by decide +kernel : decode cX10_ground 8 = .ok (.ifCond .eq 19, 3)) rfl rfl (fun c4 => ?_) (fun c4 => ?_)
  · have h := it1 h c4
    refine jB C [(.iconst (-1), 1, (-1))] 28 [(0, .ref (b + v0)), (1, .int v1), (2, .int v2)] [.int (-1)] (by decide +kernel) rfl rfl ?_
    exact jRetI C (by decide +kernel : decode cX10_ground 28 = .ok (.ireturn, 1)) (Nat.le_refl _) (Nat.le_refl _) ⟨rfl, h⟩
  · have h := it2 h c4
    refine jB C [(.iload_n 1, 1, 0), (.iconst (-1), 1, (-1))] 13 [(0, .ref (b + v0)), (1, .int v1), (2, .int v2)] [.int (-1), .int v1] (by decide +kernel) rfl rfl ?_
    refine jIcmp_eq C 16 29 (by decide +kernel : decode cX10_ground 13 = .ok (.if_icmp .eq 16, 3)) rfl rfl (fun c5 => ?_) (fun c5 => ?_)
    · have h := it1 h c5
      refine jSub [0, 1, 2] rfl ?_
      exact j_X10_ground_29 C hE t_v0 h
    · have h := it2 h c5
      refine jB C [(.aload_n 0, 1, 0)] 17 [(0, .ref (b + v0)), (1, .int v1), (2, .int v2)] [.ref (b + v0)] (by decide +kernel) rfl rfl ?_
      obtain ⟨a6, e_a6, h⟩ := h
      refine jGetR C 20 (by decide +kernel : decode cX10_ground 17 = .ok (.getfield 14, 3)) rfl t_v0 kX10 0 (by decide) rfl rfl (by decide) wd_311 e_a6 rfl (fun t_a6 => ?_)
      refine jB C [(.iload_n 1, 1, 0)] 21 [(0, .ref (b + v0)), (1, .int v1), (2, .int v2)] [.int v1, .ref (b + a6)] (by decide +kernel) rfl rfl ?_
      refine jcVN_I C 24 (rest := []) (ok_X5_hasLaw t_a6 h) (by decide +kernel : decode cX10_ground 21 = .ok (.invokevirtual 233, 3)) rfl wn_878 wd_455 wp_17 wd_2 wd_456 ⟨rfl, rfl⟩ hd_X5_hasLaw ⟨Nat.le_of_ble_eq_true rfl, Nat.le_of_ble_eq_true rfl⟩ t_a6 kX5 (by decide) rfl rfl rfl (Nat.le_of_ble_eq_true rfl) ⟨Nat.zero_le _, Nat.zero_le _⟩ (fun r8 S7 h => ?_)
      refine jIf_ne C 27 29 (by decide +kernel : decode cX10_ground 24 = .ok (.ifCond .ne 5, 3)) rfl rfl (fun c9 => ?_) (fun c9 => ?_)
      · have h := it2 h c9
        refine jSub [0, 1, 2] rfl ?_
        exact j_X10_ground_29 C hE t_v0 h
      · have h := it1 h c9
        refine jB C [(.iconst (-1), 1, (-1))] 28 [(0, .ref (b + v0)), (1, .int v1), (2, .int v2)] [.int (-1)] (by decide +kernel) rfl rfl ?_
        exact jRetI C (by decide +kernel : decode cX10_ground 28 = .ok (.ireturn, 1)) (Nat.le_refl _) (Nat.le_refl _) ⟨rfl, h⟩
theorem ok_X10_ground {G : Gm} {v0 : Nat} {v1 : Int32} {v2 : Int32} {S : St} {Q : Int32 → St → Prop}  (t_v0 : ok G 9 v0) (h : f_X10_ground G v0 v1 v2 Q S) : MT yX10_ground cX10_ground 3 (some .int) rm_X10_ground 0 0 (fun b => [.ref (b + v0), .int v1, .int v2]) G S (QI (fun r G1 S1 => G1 = G ∧ Q r S1)) := MT.ofJ (by decide +kernel) (fun b => [(0, .ref (b + v0)), (1, .int v1), (2, .int v2)]) (fun b => rfl) (fun b => Nat.le_of_ble_eq_true rfl) (fun l b D cy p e s m below meth c C hE hn => j_X10_ground C hE t_v0 h)
theorem hd_X10_ground : yX10_ground.cls ≠ "java/lang/invoke/MethodHandle" ∧ yX10_ground.cls ≠ "java/lang/invoke/VarHandle" ∧ (parseMethodDescriptor yX10_ground.desc).map (fun d => d.parameters.length) = some 2 := by decide +kernel
abbrev rm_X4_rowOf : Room := { frames := 0, cells := 0, slots := 0, locals := 0 }
set_option maxHeartbeats 4000000 in
set_option maxRecDepth 100000 in
theorem j_X4_rowOf_10_n {p : Program} {l : Launch} {e : Env} {s : State} {m : MethodId} {args : Array Value} {below : List Frame} {meth : Method} {c : Code} {b : Nat} {D : va_G} {cy : Nat → ClassId} {G : Gm} {v1 : Int32} {Q : Int32 → St → Prop} (C : CX p s m args meth c b D cy cX4_rowOf RX4 6 (some .int)) (hE : s.heap.size + 0 ≤ b + G.2.2) : ∀ k (v2 : Int32) (v3 : Int32) (v4 : Int32) (v5 : Int32) S, f_X4_rowOf_10_n G v1 Q k v2 v3 v4 v5 S → J p l e rm_X4_rowOf s m args below meth c b D cy 6 (zI b D cy below args s G Q) 0 0 G S 10 [(1, .int v1), (2, .int v2), (3, .int v3), (4, .int v4), (5, .int v5)] [] := by
  intro k
  induction k with
  | zero => intro v2 v3 v4 v5 S h; exact h.elim
  | succ k ih =>
    intro v2 v3 v4 v5 S h
    unfold f_X4_rowOf_10_n at h
    refine jB C [(.iload 5, 2, 0), (.iload_n 1, 1, 0)] 13 [(1, .int v1), (2, .int v2), (3, .int v3), (4, .int v4), (5, .int v5)] [.int v1, .int v5] (by decide +kernel) rfl rfl ?_
    refine jIcmp_ge C 16 46 (by decide +kernel : decode cX4_rowOf 13 = .ok (.if_icmp .ge 33, 3)) rfl rfl (fun c1 => ?_) (fun c1 => ?_)
    · have h := it1 h c1
      refine jB C [(.iload_n 2, 1, 0)] 47 [(1, .int v1), (2, .int v2), (3, .int v3), (4, .int v4), (5, .int v5)] [.int v2] (by decide +kernel) rfl rfl ?_
      exact jRetI C (by decide +kernel : decode cX4_rowOf 47 = .ok (.ireturn, 1)) (Nat.le_refl _) (Nat.le_refl _) ⟨rfl, h⟩
    · have h := it2 h c1
      refine jB C [(.iload_n 2, 1, 0), (.iload_n 3, 1, 0), (.bipush 7, 2, 7)] 20 [(1, .int v1), (2, .int v2), (3, .int v3), (4, .int v4), (5, .int v5)] [.int 7, .int v3, .int v2] (by decide +kernel) rfl rfl ?_
      refine jIrem C 21 (by decide +kernel : decode cX4_rowOf 20 = .ok (.irem, 1)) rfl (by decide) ?_
      refine jB C [(.iconst 1, 1, 1), (.iadd, 1, 0), (.iload 4, 2, 0), (.imul, 1, 0), (.iadd, 1, 0)] 27 [(1, .int v1), (2, .int v2), (3, .int v3), (4, .int v4), (5, .int v5)] [.int (v2 + (((v3 - v3 / 7 * 7) + 1) * v4))] (by decide +kernel) rfl rfl ?_
      refine jTopI (fun x2 e_x2 => ?_)
      have h := h x2 e_x2
      refine jB C [(.istore_n 2, 1, 0), (.iload_n 3, 1, 0), (.bipush 7, 2, 7)] 31 [(2, .int x2), (1, .int v1), (3, .int v3), (4, .int v4), (5, .int v5)] [.int 7, .int v3] (by decide +kernel) rfl rfl ?_
      refine jIdiv C 32 (by decide +kernel : decode cX4_rowOf 31 = .ok (.idiv, 1)) rfl (by decide) ?_
      refine jTopI (fun x3 e_x3 => ?_)
      have h := h x3 e_x3
      refine jB C [(.istore_n 3, 1, 0), (.iload 4, 2, 0), (.bipush 10, 2, 10), (.imul, 1, 0)] 38 [(3, .int x3), (2, .int x2), (1, .int v1), (4, .int v4), (5, .int v5)] [.int (v4 * 10)] (by decide +kernel) rfl rfl ?_
      refine jTopI (fun x4 e_x4 => ?_)
      have h := h x4 e_x4
      refine jB C [(.istore 4, 2, 0), (.iinc 5 1, 3, 1)] 43 [(5, .int (v5 + 1)), (4, .int x4), (3, .int x3), (2, .int x2), (1, .int v1)] [] (by decide +kernel) rfl rfl ?_
      refine jGoto C 10 (by decide +kernel : decode cX4_rowOf 43 = .ok (.goto (-33), 3)) rfl ?_
      refine jSub [4, 3, 2, 1, 0] rfl ?_
      exact ih x2 x3 x4 (v5 + 1) S h
theorem j_X4_rowOf_10 {p : Program} {l : Launch} {e : Env} {s : State} {m : MethodId} {args : Array Value} {below : List Frame} {meth : Method} {c : Code} {b : Nat} {D : va_G} {cy : Nat → ClassId} {G : Gm} {v1 : Int32} {v2 : Int32} {v3 : Int32} {v4 : Int32} {v5 : Int32} {S : St} {Q : Int32 → St → Prop} (C : CX p s m args meth c b D cy cX4_rowOf RX4 6 (some .int)) (hE : s.heap.size + 0 ≤ b + G.2.2) (h : f_X4_rowOf_10 G v1 Q v2 v3 v4 v5 S) : J p l e rm_X4_rowOf s m args below meth c b D cy 6 (zI b D cy below args s G Q) 0 0 G S 10 [(1, .int v1), (2, .int v2), (3, .int v3), (4, .int v4), (5, .int v5)] [] := by
  obtain ⟨k, h⟩ := h
  exact j_X4_rowOf_10_n C hE k v2 v3 v4 v5 S h
set_option maxHeartbeats 4000000 in
set_option maxRecDepth 100000 in
theorem j_X4_rowOf {p : Program} {l : Launch} {e : Env} {s : State} {m : MethodId} {args : Array Value} {below : List Frame} {meth : Method} {c : Code} {b : Nat} {D : va_G} {cy : Nat → ClassId} {G : Gm} {v0 : Int32} {v1 : Int32} {S : St} {Q : Int32 → St → Prop} (C : CX p s m args meth c b D cy cX4_rowOf RX4 6 (some .int)) (hE : s.heap.size + 0 ≤ b + G.2.2) (h : f_X4_rowOf G v0 v1 Q S) : J p l e rm_X4_rowOf s m args below meth c b D cy 6 (zI b D cy below args s G Q) 0 0 G S 0 [(0, .int v0), (1, .int v1)] [] := by
  unfold f_X4_rowOf at h
  refine jB C [(.iconst 0, 1, 0), (.istore_n 2, 1, 0), (.iload_n 0, 1, 0), (.istore_n 3, 1, 0), (.iconst 1, 1, 1), (.istore 4, 2, 0), (.iconst 0, 1, 0), (.istore 5, 2, 0)] 10 [(5, .int 0), (4, .int 1), (3, .int v0), (2, .int 0), (0, .int v0), (1, .int v1)] [] (by decide +kernel) rfl rfl ?_
  refine jSub [5, 3, 2, 1, 0] rfl ?_
  exact j_X4_rowOf_10 C hE h
theorem ok_X4_rowOf {G : Gm} {v0 : Int32} {v1 : Int32} {S : St} {Q : Int32 → St → Prop}  (h : f_X4_rowOf G v0 v1 Q S) : MT yX4_rowOf cX4_rowOf 6 (some .int) rm_X4_rowOf 0 0 (fun b => [.int v0, .int v1]) G S (QI (fun r G1 S1 => G1 = G ∧ Q r S1)) := MT.ofJ (by decide +kernel) (fun b => [(0, .int v0), (1, .int v1)]) (fun b => rfl) (fun b => Nat.le_of_ble_eq_true rfl) (fun l b D cy p e s m below meth c C hE hn => j_X4_rowOf C hE h)
theorem hd_X4_rowOf : yX4_rowOf.cls ≠ "java/lang/invoke/MethodHandle" ∧ yX4_rowOf.cls ≠ "java/lang/invoke/VarHandle" ∧ (parseMethodDescriptor yX4_rowOf.desc).map (fun d => d.parameters.length) = some 2 := by decide +kernel
abbrev rm_X4_changesNothing : Room := { frames := 2, cells := 0, slots := 0, locals := 47 }
set_option maxHeartbeats 4000000 in
set_option maxRecDepth 100000 in
theorem j_X4_changesNothing_2_n {p : Program} {l : Launch} {e : Env} {s : State} {m : MethodId} {args : Array Value} {below : List Frame} {meth : Method} {c : Code} {b : Nat} {D : va_G} {cy : Nat → ClassId} {G : Gm} {v0 : Int32} {Q : Int32 → St → Prop} (C : CX p s m args meth c b D cy cX4_changesNothing RX4 2 (some .boolean)) (hE : s.heap.size + 0 ≤ b + G.2.2) : ∀ k (v1 : Int32) S, f_X4_changesNothing_2_n G v0 Q k v1 S → J p l e rm_X4_changesNothing s m args below meth c b D cy 2 (zI b D cy below args s G Q) 0 0 G S 2 [(0, .int v0), (1, .int v1)] [] := by
  intro k
  induction k with
  | zero => intro v1 S h; exact h.elim
  | succ k ih =>
    intro v1 S h
    unfold f_X4_changesNothing_2_n at h
    refine jB C [(.iload_n 1, 1, 0), (.sipush 256, 3, 256)] 6 [(0, .int v0), (1, .int v1)] [.int 256, .int v1] (by decide +kernel) rfl rfl ?_
    refine jIcmp_ge C 9 26 (by decide +kernel : decode cX4_changesNothing 6 = .ok (.if_icmp .ge 20, 3)) rfl rfl (fun c1 => ?_) (fun c1 => ?_)
    · have h := it1 h c1
      refine jB C [(.iconst 1, 1, 1)] 27 [(0, .int v0), (1, .int v1)] [.int 1] (by decide +kernel) rfl rfl ?_
      exact jRetZ C (by decide +kernel : decode cX4_changesNothing 27 = .ok (.ireturn, 1)) (Nat.le_refl _) (Nat.le_refl _) (by decide) ⟨rfl, h⟩
    · have h := it2 h c1
      refine jB C [(.iload_n 0, 1, 0), (.iload_n 1, 1, 0)] 11 [(0, .int v0), (1, .int v1)] [.int v1, .int v0] (by decide +kernel) rfl rfl ?_
      refine jcSN_I C 14 (rest := []) (ok_X3_through h) (by decide +kernel : decode cX4_changesNothing 11 = .ok (.invokestatic 99, 3)) rfl wn_962 wd_421 wd_13 wd_422 ⟨rfl, rfl⟩ hd_X3_through ⟨Nat.le_of_ble_eq_true rfl, Nat.le_of_ble_eq_true rfl⟩ rfl rfl (Nat.le_of_ble_eq_true rfl) ⟨Nat.zero_le _, Nat.zero_le _⟩ (fun r3 S2 h => ?_)
      refine jB C [(.iload_n 1, 1, 0)] 15 [(0, .int v0), (1, .int v1)] [.int v1, .int r3] (by decide +kernel) rfl rfl ?_
      refine jIcmp_eq C 18 20 (by decide +kernel : decode cX4_changesNothing 15 = .ok (.if_icmp .eq 5, 3)) rfl rfl (fun c4 => ?_) (fun c4 => ?_)
      · have h := it1 h c4
        refine jB C [(.iinc 1 1, 3, 1)] 23 [(1, .int (v1 + 1)), (0, .int v0)] [] (by decide +kernel) rfl rfl ?_
        refine jGoto C 2 (by decide +kernel : decode cX4_changesNothing 23 = .ok (.goto (-21), 3)) rfl ?_
        refine jSub [1, 0] rfl ?_
        exact ih (v1 + 1) S2 h
      · have h := it2 h c4
        refine jB C [(.iconst 0, 1, 0)] 19 [(0, .int v0), (1, .int v1)] [.int 0] (by decide +kernel) rfl rfl ?_
        exact jRetZ C (by decide +kernel : decode cX4_changesNothing 19 = .ok (.ireturn, 1)) (Nat.le_refl _) (Nat.le_refl _) (by decide) ⟨rfl, h⟩
theorem j_X4_changesNothing_2 {p : Program} {l : Launch} {e : Env} {s : State} {m : MethodId} {args : Array Value} {below : List Frame} {meth : Method} {c : Code} {b : Nat} {D : va_G} {cy : Nat → ClassId} {G : Gm} {v0 : Int32} {v1 : Int32} {S : St} {Q : Int32 → St → Prop} (C : CX p s m args meth c b D cy cX4_changesNothing RX4 2 (some .boolean)) (hE : s.heap.size + 0 ≤ b + G.2.2) (h : f_X4_changesNothing_2 G v0 Q v1 S) : J p l e rm_X4_changesNothing s m args below meth c b D cy 2 (zI b D cy below args s G Q) 0 0 G S 2 [(0, .int v0), (1, .int v1)] [] := by
  obtain ⟨k, h⟩ := h
  exact j_X4_changesNothing_2_n C hE k v1 S h
set_option maxHeartbeats 4000000 in
set_option maxRecDepth 100000 in
theorem j_X4_changesNothing {p : Program} {l : Launch} {e : Env} {s : State} {m : MethodId} {args : Array Value} {below : List Frame} {meth : Method} {c : Code} {b : Nat} {D : va_G} {cy : Nat → ClassId} {G : Gm} {v0 : Int32} {S : St} {Q : Int32 → St → Prop} (C : CX p s m args meth c b D cy cX4_changesNothing RX4 2 (some .boolean)) (hE : s.heap.size + 0 ≤ b + G.2.2) (h : f_X4_changesNothing G v0 Q S) : J p l e rm_X4_changesNothing s m args below meth c b D cy 2 (zI b D cy below args s G Q) 0 0 G S 0 [(0, .int v0)] [] := by
  unfold f_X4_changesNothing at h
  refine jB C [(.iconst 0, 1, 0), (.istore_n 1, 1, 0)] 2 [(1, .int 0), (0, .int v0)] [] (by decide +kernel) rfl rfl ?_
  refine jSub [1, 0] rfl ?_
  exact j_X4_changesNothing_2 C hE h
theorem ok_X4_changesNothing {G : Gm} {v0 : Int32} {S : St} {Q : Int32 → St → Prop}  (h : f_X4_changesNothing G v0 Q S) : MT yX4_changesNothing cX4_changesNothing 2 (some .boolean) rm_X4_changesNothing 0 0 (fun b => [.int v0]) G S (QI (fun r G1 S1 => G1 = G ∧ Q r S1)) := MT.ofJ (by decide +kernel) (fun b => [(0, .int v0)]) (fun b => rfl) (fun b => Nat.le_of_ble_eq_true rfl) (fun l b D cy p e s m below meth c C hE hn => j_X4_changesNothing C hE h)
theorem hd_X4_changesNothing : yX4_changesNothing.cls ≠ "java/lang/invoke/MethodHandle" ∧ yX4_changesNothing.cls ≠ "java/lang/invoke/VarHandle" ∧ (parseMethodDescriptor yX4_changesNothing.desc).map (fun d => d.parameters.length) = some 1 := by decide +kernel
abbrev rm_X4_findIdle : Room := { frames := 3, cells := 0, slots := 0, locals := 68 }
set_option maxHeartbeats 4000000 in
set_option maxRecDepth 100000 in
theorem j_X4_findIdle_37_n {p : Program} {l : Launch} {e : Env} {s : State} {m : MethodId} {args : Array Value} {below : List Frame} {meth : Method} {c : Code} {b : Nat} {D : va_G} {cy : Nat → ClassId} {G : Gm} {v0 : Nat} {v1 : Int32} {v2 : Int32} {v3 : Int32} {Q : St → Prop} (C : CX p s m args meth c b D cy cX4_findIdle RX4 7 none) (hE : s.heap.size + 0 ≤ b + G.2.2) (t_v0 : ok G 3 v0) : ∀ k (v4 : Int32) (v5 : Int32) S, f_X4_findIdle_37_n G v0 v1 v2 v3 Q k v4 v5 S → J p l e rm_X4_findIdle s m args below meth c b D cy 7 (zV b D cy below args s G Q) 0 0 G S 37 [(0, .ref (b + v0)), (1, .int v1), (2, .int v2), (3, .int v3), (4, .int v4), (5, .int v5)] [] := by
  intro k
  induction k with
  | zero => intro v4 v5 S h; exact h.elim
  | succ k ih =>
    intro v4 v5 S h
    unfold f_X4_findIdle_37_n at h
    refine jB C [(.iload 5, 2, 0), (.iload_n 2, 1, 0)] 40 [(0, .ref (b + v0)), (1, .int v1), (2, .int v2), (3, .int v3), (4, .int v4), (5, .int v5)] [.int v2, .int v5] (by decide +kernel) rfl rfl ?_
    refine jIcmp_ge C 43 88 (by decide +kernel : decode cX4_findIdle 40 = .ok (.if_icmp .ge 48, 3)) rfl rfl (fun c1 => ?_) (fun c1 => ?_)
    · have h := it1 h c1
      refine jB C [(.aload_n 0, 1, 0)] 89 [(0, .ref (b + v0)), (1, .int v1), (2, .int v2), (3, .int v3), (4, .int v4), (5, .int v5)] [.ref (b + v0)] (by decide +kernel) rfl rfl ?_
      obtain ⟨a2, e_a2, h⟩ := h
      refine jGetR C 92 (by decide +kernel : decode cX4_findIdle 89 = .ok (.getfield 48, 3)) rfl t_v0 kX4 10 (by decide) rfl rfl (by decide) wd_201 e_a2 rfl (fun t_a2 => ?_)
      refine jB C [(.iload_n 1, 1, 0), (.iload 4, 2, 0)] 95 [(0, .ref (b + v0)), (1, .int v1), (2, .int v2), (3, .int v3), (4, .int v4), (5, .int v5)] [.int v4, .int v1, .ref (b + a2)] (by decide +kernel) rfl rfl ?_
      obtain ⟨y3, h⟩ := h
      refine jIast C 96 (by decide +kernel : decode cX4_findIdle 95 = .ok (.iastore, 1)) rfl hE t_a2 y3 ?_
      refine jTopS (fun S4 e_S4 => ?_)
      have h := h S4 e_S4
      exact jRetV C (by decide +kernel : decode cX4_findIdle 96 = .ok (.return_, 1)) (Nat.le_refl _) (Nat.le_refl _) ⟨rfl, h⟩
    · have h := it2 h c1
      refine jB C [(.iload 5, 2, 0), (.iload_n 1, 1, 0)] 46 [(0, .ref (b + v0)), (1, .int v1), (2, .int v2), (3, .int v3), (4, .int v4), (5, .int v5)] [.int v1, .int v5] (by decide +kernel) rfl rfl ?_
      refine jcS_I C 49 (rest := []) (ok_X4_rowOf h) (by decide +kernel : decode cX4_findIdle 46 = .ok (.invokestatic 167, 3)) rfl wd_1044 wd_1045 wd_8 wd_1046 ⟨rfl, rfl⟩ hd_X4_rowOf ⟨Nat.le_of_ble_eq_true rfl, Nat.le_of_ble_eq_true rfl⟩ rfl rfl (Nat.le_of_ble_eq_true rfl) ⟨Nat.zero_le _, Nat.zero_le _⟩ (fun r6 S5 h => ?_)
      refine jB C [(.istore 6, 2, 0), (.iload 6, 2, 0), (.iload_n 3, 1, 0), (.iadd, 1, 0)] 55 [(6, .int r6), (0, .ref (b + v0)), (1, .int v1), (2, .int v2), (3, .int v3), (4, .int v4), (5, .int v5)] [.int (r6 + v3)] (by decide +kernel) rfl rfl ?_
      refine jcS_I C 58 (rest := []) (ok_X4_changesNothing h) (by decide +kernel : decode cX4_findIdle 55 = .ok (.invokestatic 170, 3)) rfl wd_1047 wd_1048 wd_8 wd_1049 ⟨rfl, rfl⟩ hd_X4_changesNothing ⟨Nat.le_of_ble_eq_true rfl, Nat.le_of_ble_eq_true rfl⟩ rfl rfl (Nat.le_of_ble_eq_true rfl) ⟨Nat.zero_le _, Nat.zero_le _⟩ (fun r8 S7 h => ?_)
      refine jIf_eq C 61 82 (by decide +kernel : decode cX4_findIdle 58 = .ok (.ifCond .eq 24, 3)) rfl rfl (fun c9 => ?_) (fun c9 => ?_)
      · have h := it1 h c9
        refine jB C [(.iinc 5 1, 3, 1)] 85 [(5, .int (v5 + 1)), (6, .int r6), (0, .ref (b + v0)), (1, .int v1), (2, .int v2), (3, .int v3), (4, .int v4)] [] (by decide +kernel) rfl rfl ?_
        refine jGoto C 37 (by decide +kernel : decode cX4_findIdle 85 = .ok (.goto (-48), 3)) rfl ?_
        refine jSub [2, 3, 4, 5, 6, 0] rfl ?_
        exact ih v4 (v5 + 1) S7 h
      · have h := it2 h c9
        refine jB C [(.iload 4, 2, 0), (.bipush 32, 2, 32)] 65 [(6, .int r6), (0, .ref (b + v0)), (1, .int v1), (2, .int v2), (3, .int v3), (4, .int v4), (5, .int v5)] [.int 32, .int v4] (by decide +kernel) rfl rfl ?_
        refine jIcmp_ge C 68 82 (by decide +kernel : decode cX4_findIdle 65 = .ok (.if_icmp .ge 17, 3)) rfl rfl (fun c10 => ?_) (fun c10 => ?_)
        · have h := it1 h c10
          refine jB C [(.iinc 5 1, 3, 1)] 85 [(5, .int (v5 + 1)), (6, .int r6), (0, .ref (b + v0)), (1, .int v1), (2, .int v2), (3, .int v3), (4, .int v4)] [] (by decide +kernel) rfl rfl ?_
          refine jGoto C 37 (by decide +kernel : decode cX4_findIdle 85 = .ok (.goto (-48), 3)) rfl ?_
          refine jSub [2, 3, 4, 5, 6, 0] rfl ?_
          exact ih v4 (v5 + 1) S7 h
        · have h := it2 h c10
          refine jB C [(.aload_n 0, 1, 0)] 69 [(6, .int r6), (0, .ref (b + v0)), (1, .int v1), (2, .int v2), (3, .int v3), (4, .int v4), (5, .int v5)] [.ref (b + v0)] (by decide +kernel) rfl rfl ?_
          obtain ⟨a11, e_a11, h⟩ := h
          refine jGetR C 72 (by decide +kernel : decode cX4_findIdle 69 = .ok (.getfield 45, 3)) rfl t_v0 kX4 9 (by decide) rfl rfl (by decide) wd_200 e_a11 rfl (fun t_a11 => ?_)
          refine jB C [(.iload_n 1, 1, 0)] 73 [(6, .int r6), (0, .ref (b + v0)), (1, .int v1), (2, .int v2), (3, .int v3), (4, .int v4), (5, .int v5)] [.int v1, .ref (b + a11)] (by decide +kernel) rfl rfl ?_
          obtain ⟨y12, a14, e_a14, h⟩ := h
          refine jAald16 C 74 (by decide +kernel : decode cX4_findIdle 73 = .ok (.aaload, 1)) rfl t_a11 y12 e_a14 (fun t_a14 => ?_)
          refine jB C [(.iload 4, 2, 0), (.iload 6, 2, 0)] 78 [(6, .int r6), (0, .ref (b + v0)), (1, .int v1), (2, .int v2), (3, .int v3), (4, .int v4), (5, .int v5)] [.int r6, .int v4, .ref (b + a14)] (by decide +kernel) rfl rfl ?_
          obtain ⟨y15, h⟩ := h
          refine jIast C 79 (by decide +kernel : decode cX4_findIdle 78 = .ok (.iastore, 1)) rfl hE t_a14 y15 ?_
          refine jTopS (fun S16 e_S16 => ?_)
          have h := h S16 e_S16
          refine jB C [(.iinc 4 1, 3, 1), (.iinc 5 1, 3, 1)] 85 [(5, .int (v5 + 1)), (4, .int (v4 + 1)), (6, .int r6), (0, .ref (b + v0)), (1, .int v1), (2, .int v2), (3, .int v3)] [] (by decide +kernel) rfl rfl ?_
          refine jGoto C 37 (by decide +kernel : decode cX4_findIdle 85 = .ok (.goto (-48), 3)) rfl ?_
          refine jSub [3, 4, 5, 6, 1, 0] rfl ?_
          exact ih (v4 + 1) (v5 + 1) S16 h
theorem j_X4_findIdle_37 {p : Program} {l : Launch} {e : Env} {s : State} {m : MethodId} {args : Array Value} {below : List Frame} {meth : Method} {c : Code} {b : Nat} {D : va_G} {cy : Nat → ClassId} {G : Gm} {v0 : Nat} {v1 : Int32} {v2 : Int32} {v3 : Int32} {v4 : Int32} {v5 : Int32} {S : St} {Q : St → Prop} (C : CX p s m args meth c b D cy cX4_findIdle RX4 7 none) (hE : s.heap.size + 0 ≤ b + G.2.2) (t_v0 : ok G 3 v0) (h : f_X4_findIdle_37 G v0 v1 v2 v3 Q v4 v5 S) : J p l e rm_X4_findIdle s m args below meth c b D cy 7 (zV b D cy below args s G Q) 0 0 G S 37 [(0, .ref (b + v0)), (1, .int v1), (2, .int v2), (3, .int v3), (4, .int v4), (5, .int v5)] [] := by
  obtain ⟨k, h⟩ := h
  exact j_X4_findIdle_37_n C hE t_v0 k v4 v5 S h
set_option maxHeartbeats 4000000 in
set_option maxRecDepth 100000 in
theorem j_X4_findIdle_7_n {p : Program} {l : Launch} {e : Env} {s : State} {m : MethodId} {args : Array Value} {below : List Frame} {meth : Method} {c : Code} {b : Nat} {D : va_G} {cy : Nat → ClassId} {G : Gm} {v0 : Nat} {v1 : Int32} {Q : St → Prop} (C : CX p s m args meth c b D cy cX4_findIdle RX4 7 none) (hE : s.heap.size + 0 ≤ b + G.2.2) (t_v0 : ok G 3 v0) : ∀ k (v2 : Int32) (v3 : Int32) (v4 : Int32) S, f_X4_findIdle_7_n G v0 v1 Q k v2 v3 v4 S → J p l e rm_X4_findIdle s m args below meth c b D cy 7 (zV b D cy below args s G Q) 0 0 G S 7 [(0, .ref (b + v0)), (1, .int v1), (2, .int v2), (3, .int v3), (4, .int v4)] [] := by
  intro k
  induction k with
  | zero => intro v2 v3 v4 S h; exact h.elim
  | succ k ih =>
    intro v2 v3 v4 S h
    unfold f_X4_findIdle_7_n at h
    refine jB C [(.iload 4, 2, 0), (.iload_n 1, 1, 0)] 10 [(0, .ref (b + v0)), (1, .int v1), (2, .int v2), (3, .int v3), (4, .int v4)] [.int v1, .int v4] (by decide +kernel) rfl rfl ?_
    refine jIcmp_ge C 13 31 (by decide +kernel : decode cX4_findIdle 10 = .ok (.if_icmp .ge 21, 3)) rfl rfl (fun c1 => ?_) (fun c1 => ?_)
    · have h := it1 h c1
      refine jB C [(.iconst 0, 1, 0), (.istore 4, 2, 0), (.iconst 0, 1, 0), (.istore 5, 2, 0)] 37 [(5, .int 0), (4, .int 0), (0, .ref (b + v0)), (1, .int v1), (2, .int v2), (3, .int v3)] [] (by decide +kernel) rfl rfl ?_
      refine jSub [2, 3, 4, 5, 1, 0] rfl ?_
      exact j_X4_findIdle_37 C hE t_v0 h
    · have h := it2 h c1
      refine jB C [(.iload_n 2, 1, 0), (.bipush 7, 2, 7), (.imul, 1, 0)] 17 [(0, .ref (b + v0)), (1, .int v1), (2, .int v2), (3, .int v3), (4, .int v4)] [.int (v2 * 7)] (by decide +kernel) rfl rfl ?_
      refine jTopI (fun x2 e_x2 => ?_)
      have h := h x2 e_x2
      refine jB C [(.istore_n 2, 1, 0), (.iload_n 3, 1, 0), (.bipush 10, 2, 10), (.imul, 1, 0), (.iconst 1, 1, 1), (.iadd, 1, 0)] 24 [(2, .int x2), (0, .ref (b + v0)), (1, .int v1), (3, .int v3), (4, .int v4)] [.int ((v3 * 10) + 1)] (by decide +kernel) rfl rfl ?_
      refine jTopI (fun x3 e_x3 => ?_)
      have h := h x3 e_x3
      refine jB C [(.istore_n 3, 1, 0), (.iinc 4 1, 3, 1)] 28 [(4, .int (v4 + 1)), (3, .int x3), (2, .int x2), (0, .ref (b + v0)), (1, .int v1)] [] (by decide +kernel) rfl rfl ?_
      refine jGoto C 7 (by decide +kernel : decode cX4_findIdle 28 = .ok (.goto (-21), 3)) rfl ?_
      refine jSub [3, 4, 2, 1, 0] rfl ?_
      exact ih x2 x3 (v4 + 1) S h
theorem j_X4_findIdle_7 {p : Program} {l : Launch} {e : Env} {s : State} {m : MethodId} {args : Array Value} {below : List Frame} {meth : Method} {c : Code} {b : Nat} {D : va_G} {cy : Nat → ClassId} {G : Gm} {v0 : Nat} {v1 : Int32} {v2 : Int32} {v3 : Int32} {v4 : Int32} {S : St} {Q : St → Prop} (C : CX p s m args meth c b D cy cX4_findIdle RX4 7 none) (hE : s.heap.size + 0 ≤ b + G.2.2) (t_v0 : ok G 3 v0) (h : f_X4_findIdle_7 G v0 v1 Q v2 v3 v4 S) : J p l e rm_X4_findIdle s m args below meth c b D cy 7 (zV b D cy below args s G Q) 0 0 G S 7 [(0, .ref (b + v0)), (1, .int v1), (2, .int v2), (3, .int v3), (4, .int v4)] [] := by
  obtain ⟨k, h⟩ := h
  exact j_X4_findIdle_7_n C hE t_v0 k v2 v3 v4 S h
set_option maxHeartbeats 4000000 in
set_option maxRecDepth 100000 in
theorem j_X4_findIdle {p : Program} {l : Launch} {e : Env} {s : State} {m : MethodId} {args : Array Value} {below : List Frame} {meth : Method} {c : Code} {b : Nat} {D : va_G} {cy : Nat → ClassId} {G : Gm} {v0 : Nat} {v1 : Int32} {S : St} {Q : St → Prop} (C : CX p s m args meth c b D cy cX4_findIdle RX4 7 none) (hE : s.heap.size + 0 ≤ b + G.2.2) (t_v0 : ok G 3 v0) (h : f_X4_findIdle G v0 v1 Q S) : J p l e rm_X4_findIdle s m args below meth c b D cy 7 (zV b D cy below args s G Q) 0 0 G S 0 [(0, .ref (b + v0)), (1, .int v1)] [] := by
  unfold f_X4_findIdle at h
  refine jB C [(.iconst 1, 1, 1), (.istore_n 2, 1, 0), (.iconst 0, 1, 0), (.istore_n 3, 1, 0), (.iconst 0, 1, 0), (.istore 4, 2, 0)] 7 [(4, .int 0), (3, .int 0), (2, .int 1), (0, .ref (b + v0)), (1, .int v1)] [] (by decide +kernel) rfl rfl ?_
  refine jSub [3, 4, 2, 1, 0] rfl ?_
  exact j_X4_findIdle_7 C hE t_v0 h
theorem ok_X4_findIdle {G : Gm} {v0 : Nat} {v1 : Int32} {S : St} {Q : St → Prop}  (t_v0 : ok G 3 v0) (h : f_X4_findIdle G v0 v1 Q S) : MT yX4_findIdle cX4_findIdle 7 none rm_X4_findIdle 0 0 (fun b => [.ref (b + v0), .int v1]) G S (QV (fun G1 S1 => G1 = G ∧ Q S1)) := MT.ofJ (by decide +kernel) (fun b => [(0, .ref (b + v0)), (1, .int v1)]) (fun b => rfl) (fun b => Nat.le_of_ble_eq_true rfl) (fun l b D cy p e s m below meth c C hE hn => j_X4_findIdle C hE t_v0 h)
theorem hd_X4_findIdle : yX4_findIdle.cls ≠ "java/lang/invoke/MethodHandle" ∧ yX4_findIdle.cls ≠ "java/lang/invoke/VarHandle" ∧ (parseMethodDescriptor yX4_findIdle.desc).map (fun d => d.parameters.length) = some 1 := by decide +kernel
abbrev rm_X4_idleAt : Room := { frames := 4, cells := 0, slots := 0, locals := 94 }
set_option maxHeartbeats 4000000 in
set_option maxRecDepth 100000 in
theorem j_X4_idleAt_27 {p : Program} {l : Launch} {e : Env} {s : State} {m : MethodId} {args : Array Value} {below : List Frame} {meth : Method} {c : Code} {b : Nat} {D : va_G} {cy : Nat → ClassId} {G : Gm} {v0 : Nat} {v1 : Int32} {v2 : Int32} {S : St} {Q : Int32 → St → Prop} (C : CX p s m args meth c b D cy cX4_idleAt RX4 3 (some .int)) (hE : s.heap.size + 0 ≤ b + G.2.2) (t_v0 : ok G 3 v0) (h : f_X4_idleAt_27 G v0 v1 v2 Q S) : J p l e rm_X4_idleAt s m args below meth c b D cy 3 (zI b D cy below args s G Q) 0 0 G S 27 [(0, .ref (b + v0)), (1, .int v1), (2, .int v2)] [] := by
  unfold f_X4_idleAt_27 at h
  refine jB C [(.iload_n 2, 1, 0), (.iconst (-1), 1, (-1))] 29 [(0, .ref (b + v0)), (1, .int v1), (2, .int v2)] [.int (-1), .int v2] (by decide +kernel) rfl rfl ?_
  refine jIcmp_ne C 32 39 (by decide +kernel : decode cX4_idleAt 29 = .ok (.if_icmp .ne 10, 3)) rfl rfl (fun c1 => ?_) (fun c1 => ?_)
  · have h := it2 h c1
    refine jB C [(.iload_n 2, 1, 0)] 40 [(0, .ref (b + v0)), (1, .int v1), (2, .int v2)] [.int v2] (by decide +kernel) rfl rfl ?_
    refine jIf_lt C 43 70 (by decide +kernel : decode cX4_idleAt 40 = .ok (.ifCond .lt 30, 3)) rfl rfl (fun c2 => ?_) (fun c2 => ?_)
    · have h := it1 h c2
      refine jB C [(.iconst (-1), 1, (-1))] 71 [(0, .ref (b + v0)), (1, .int v1), (2, .int v2)] [.int (-1)] (by decide +kernel) rfl rfl ?_
      exact jRetI C (by decide +kernel : decode cX4_idleAt 71 = .ok (.ireturn, 1)) (Nat.le_refl _) (Nat.le_refl _) ⟨rfl, h⟩
    · have h := it2 h c2
      refine jB C [(.iload_n 2, 1, 0), (.aload_n 0, 1, 0)] 45 [(0, .ref (b + v0)), (1, .int v1), (2, .int v2)] [.ref (b + v0), .int v2] (by decide +kernel) rfl rfl ?_
      obtain ⟨a3, e_a3, h⟩ := h
      refine jGetR C 48 (by decide +kernel : decode cX4_idleAt 45 = .ok (.getfield 48, 3)) rfl t_v0 kX4 10 (by decide) rfl rfl (by decide) wd_201 e_a3 rfl (fun t_a3 => ?_)
      refine jB C [(.iload_n 1, 1, 0)] 49 [(0, .ref (b + v0)), (1, .int v1), (2, .int v2)] [.int v1, .ref (b + a3), .int v2] (by decide +kernel) rfl rfl ?_
      obtain ⟨y4, h⟩ := h
      refine jIald C 50 (by decide +kernel : decode cX4_idleAt 49 = .ok (.iaload, 1)) rfl t_a3 y4 ?_
      refine jIcmp_ge C 53 70 (by decide +kernel : decode cX4_idleAt 50 = .ok (.if_icmp .ge 20, 3)) rfl rfl (fun c5 => ?_) (fun c5 => ?_)
      · have h := it1 h c5
        refine jB C [(.iconst (-1), 1, (-1))] 71 [(0, .ref (b + v0)), (1, .int v1), (2, .int v2)] [.int (-1)] (by decide +kernel) rfl rfl ?_
        exact jRetI C (by decide +kernel : decode cX4_idleAt 71 = .ok (.ireturn, 1)) (Nat.le_refl _) (Nat.le_refl _) ⟨rfl, h⟩
      · have h := it2 h c5
        refine jB C [(.iload_n 2, 1, 0), (.bipush 32, 2, 32)] 56 [(0, .ref (b + v0)), (1, .int v1), (2, .int v2)] [.int 32, .int v2] (by decide +kernel) rfl rfl ?_
        refine jIcmp_ge C 59 70 (by decide +kernel : decode cX4_idleAt 56 = .ok (.if_icmp .ge 14, 3)) rfl rfl (fun c6 => ?_) (fun c6 => ?_)
        · have h := it1 h c6
          refine jB C [(.iconst (-1), 1, (-1))] 71 [(0, .ref (b + v0)), (1, .int v1), (2, .int v2)] [.int (-1)] (by decide +kernel) rfl rfl ?_
          exact jRetI C (by decide +kernel : decode cX4_idleAt 71 = .ok (.ireturn, 1)) (Nat.le_refl _) (Nat.le_refl _) ⟨rfl, h⟩
        · have h := it2 h c6
          refine jB C [(.aload_n 0, 1, 0)] 60 [(0, .ref (b + v0)), (1, .int v1), (2, .int v2)] [.ref (b + v0)] (by decide +kernel) rfl rfl ?_
          obtain ⟨a7, e_a7, h⟩ := h
          refine jGetR C 63 (by decide +kernel : decode cX4_idleAt 60 = .ok (.getfield 45, 3)) rfl t_v0 kX4 9 (by decide) rfl rfl (by decide) wd_200 e_a7 rfl (fun t_a7 => ?_)
          refine jB C [(.iload_n 1, 1, 0)] 64 [(0, .ref (b + v0)), (1, .int v1), (2, .int v2)] [.int v1, .ref (b + a7)] (by decide +kernel) rfl rfl ?_
          obtain ⟨y8, a10, e_a10, h⟩ := h
          refine jAald16 C 65 (by decide +kernel : decode cX4_idleAt 64 = .ok (.aaload, 1)) rfl t_a7 y8 e_a10 (fun t_a10 => ?_)
          refine jB C [(.iload_n 2, 1, 0)] 66 [(0, .ref (b + v0)), (1, .int v1), (2, .int v2)] [.int v2, .ref (b + a10)] (by decide +kernel) rfl rfl ?_
          obtain ⟨y11, h⟩ := h
          refine jIald C 67 (by decide +kernel : decode cX4_idleAt 66 = .ok (.iaload, 1)) rfl t_a10 y11 ?_
          refine jGoto C 71 (by decide +kernel : decode cX4_idleAt 67 = .ok (.goto 4, 3)) rfl ?_
          exact jRetI C (by decide +kernel : decode cX4_idleAt 71 = .ok (.ireturn, 1)) (Nat.le_refl _) (Nat.le_refl _) ⟨rfl, h⟩
  · have h := it1 h c1
    refine jB C [(.aload_n 0, 1, 0)] 33 [(0, .ref (b + v0)), (1, .int v1), (2, .int v2)] [.ref (b + v0)] (by decide +kernel) rfl rfl ?_
    obtain ⟨a12, e_a12, h⟩ := h
    refine jGetR C 36 (by decide +kernel : decode cX4_idleAt 33 = .ok (.getfield 48, 3)) rfl t_v0 kX4 10 (by decide) rfl rfl (by decide) wd_201 e_a12 rfl (fun t_a12 => ?_)
    refine jB C [(.iload_n 1, 1, 0)] 37 [(0, .ref (b + v0)), (1, .int v1), (2, .int v2)] [.int v1, .ref (b + a12)] (by decide +kernel) rfl rfl ?_
    obtain ⟨y13, h⟩ := h
    refine jIald C 38 (by decide +kernel : decode cX4_idleAt 37 = .ok (.iaload, 1)) rfl t_a12 y13 ?_
    exact jRetI C (by decide +kernel : decode cX4_idleAt 38 = .ok (.ireturn, 1)) (Nat.le_refl _) (Nat.le_refl _) ⟨rfl, h⟩
set_option maxHeartbeats 4000000 in
set_option maxRecDepth 100000 in
theorem j_X4_idleAt {p : Program} {l : Launch} {e : Env} {s : State} {m : MethodId} {args : Array Value} {below : List Frame} {meth : Method} {c : Code} {b : Nat} {D : va_G} {cy : Nat → ClassId} {G : Gm} {v0 : Nat} {v1 : Int32} {v2 : Int32} {S : St} {Q : Int32 → St → Prop} (C : CX p s m args meth c b D cy cX4_idleAt RX4 3 (some .int)) (hE : s.heap.size + 0 ≤ b + G.2.2) (t_v0 : ok G 3 v0) (h : f_X4_idleAt G v0 v1 v2 Q S) : J p l e rm_X4_idleAt s m args below meth c b D cy 3 (zI b D cy below args s G Q) 0 0 G S 0 [(0, .ref (b + v0)), (1, .int v1), (2, .int v2)] [] := by
  unfold f_X4_idleAt at h
  refine jB C [(.iload_n 1, 1, 0), (.iconst 1, 1, 1)] 2 [(0, .ref (b + v0)), (1, .int v1), (2, .int v2)] [.int 1, .int v1] (by decide +kernel) rfl rfl ?_
  refine jIcmp_lt C 5 10 (by decide +kernel : decode cX4_idleAt 2 = .ok (.if_icmp .lt 8, 3)) rfl rfl (fun c1 => ?_) (fun c1 => ?_)
  · have h := it1 h c1
    refine jB C [(.iconst (-1), 1, (-1))] 11 [(0, .ref (b + v0)), (1, .int v1), (2, .int v2)] [.int (-1)] (by decide +kernel) rfl rfl ?_
    exact jRetI C (by decide +kernel : decode cX4_idleAt 11 = .ok (.ireturn, 1)) (Nat.le_refl _) (Nat.le_refl _) ⟨rfl, h⟩
  · have h := it2 h c1
    refine jB C [(.iload_n 1, 1, 0), (.iconst 4, 1, 4)] 7 [(0, .ref (b + v0)), (1, .int v1), (2, .int v2)] [.int 4, .int v1] (by decide +kernel) rfl rfl ?_
    refine jIcmp_le C 10 12 (by decide +kernel : decode cX4_idleAt 7 = .ok (.if_icmp .le 5, 3)) rfl rfl (fun c2 => ?_) (fun c2 => ?_)
    · have h := it1 h c2
      refine jB C [(.aload_n 0, 1, 0)] 13 [(0, .ref (b + v0)), (1, .int v1), (2, .int v2)] [.ref (b + v0)] (by decide +kernel) rfl rfl ?_
      obtain ⟨a3, e_a3, h⟩ := h
      refine jGetR C 16 (by decide +kernel : decode cX4_idleAt 13 = .ok (.getfield 48, 3)) rfl t_v0 kX4 10 (by decide) rfl rfl (by decide) wd_201 e_a3 rfl (fun t_a3 => ?_)
      refine jB C [(.iload_n 1, 1, 0)] 17 [(0, .ref (b + v0)), (1, .int v1), (2, .int v2)] [.int v1, .ref (b + a3)] (by decide +kernel) rfl rfl ?_
      obtain ⟨y4, h⟩ := h
      refine jIald C 18 (by decide +kernel : decode cX4_idleAt 17 = .ok (.iaload, 1)) rfl t_a3 y4 ?_
      refine jB C [(.iconst (-1), 1, (-1))] 19 [(0, .ref (b + v0)), (1, .int v1), (2, .int v2)] [.int (-1), .int (S.1 a3 v1.toNatClampNeg)] (by decide +kernel) rfl rfl ?_
      refine jIcmp_ne C 22 27 (by decide +kernel : decode cX4_idleAt 19 = .ok (.if_icmp .ne 8, 3)) rfl rfl (fun c5 => ?_) (fun c5 => ?_)
      · have h := it2 h c5
        refine jSub [0, 1, 2] rfl ?_
        exact j_X4_idleAt_27 C hE t_v0 h
      · have h := it1 h c5
        refine jB C [(.aload_n 0, 1, 0), (.iload_n 1, 1, 0)] 24 [(0, .ref (b + v0)), (1, .int v1), (2, .int v2)] [.int v1, .ref (b + v0)] (by decide +kernel) rfl rfl ?_
        refine jcV_V C 27 (rest := []) (ok_X4_findIdle t_v0 h) (by decide +kernel : decode cX4_idleAt 24 = .ok (.invokevirtual 164, 3)) rfl wd_1040 wd_1042 wp_93 wd_8 wd_1043 ⟨rfl, rfl⟩ hd_X4_findIdle ⟨Nat.le_of_ble_eq_true rfl, Nat.le_of_ble_eq_true rfl⟩ t_v0 kX4 (by decide) rfl rfl rfl (Nat.le_of_ble_eq_true rfl) ⟨Nat.zero_le _, Nat.zero_le _⟩ (fun S6 h => ?_)
        refine jSub [0, 1, 2] rfl ?_
        exact j_X4_idleAt_27 C hE t_v0 h
    · have h := it2 h c2
      refine jB C [(.iconst (-1), 1, (-1))] 11 [(0, .ref (b + v0)), (1, .int v1), (2, .int v2)] [.int (-1)] (by decide +kernel) rfl rfl ?_
      exact jRetI C (by decide +kernel : decode cX4_idleAt 11 = .ok (.ireturn, 1)) (Nat.le_refl _) (Nat.le_refl _) ⟨rfl, h⟩
theorem ok_X4_idleAt {G : Gm} {v0 : Nat} {v1 : Int32} {v2 : Int32} {S : St} {Q : Int32 → St → Prop}  (t_v0 : ok G 3 v0) (h : f_X4_idleAt G v0 v1 v2 Q S) : MT yX4_idleAt cX4_idleAt 3 (some .int) rm_X4_idleAt 0 0 (fun b => [.ref (b + v0), .int v1, .int v2]) G S (QI (fun r G1 S1 => G1 = G ∧ Q r S1)) := MT.ofJ (by decide +kernel) (fun b => [(0, .ref (b + v0)), (1, .int v1), (2, .int v2)]) (fun b => rfl) (fun b => Nat.le_of_ble_eq_true rfl) (fun l b D cy p e s m below meth c C hE hn => j_X4_idleAt C hE t_v0 h)
theorem hd_X4_idleAt : yX4_idleAt.cls ≠ "java/lang/invoke/MethodHandle" ∧ yX4_idleAt.cls ≠ "java/lang/invoke/VarHandle" ∧ (parseMethodDescriptor yX4_idleAt.desc).map (fun d => d.parameters.length) = some 2 := by decide +kernel
