abbrev rm_X6_part (n : Nat) : Room := { frames := 3 * n + 5, cells := 0, slots := 0, locals := 100 * n + 170 }
abbrev rm_X6_term (n : Nat) : Room := { frames := 3 * n + 6, cells := 0, slots := 0, locals := 100 * n + 200 }
abbrev rm_X6_sum (n : Nat) : Room := { frames := 3 * n + 4, cells := 0, slots := 0, locals := 100 * n + 140 }
abbrev rm_X6_plain (n : Nat) : Room := { frames := 3 * n + 41, cells := 0, slots := 0, locals := 100 * n + 1330 }
abbrev rm_X6_both (n : Nat) : Room := { frames := 3 * n + 42, cells := 0, slots := 0, locals := 100 * n + 1360 }
abbrev rm_X6_test (n : Nat) : Room := { frames := 3 * n + 40, cells := 0, slots := 0, locals := 100 * n + 1300 }
theorem hd_X6_sum : yX6_sum.cls ≠ "java/lang/invoke/MethodHandle" ∧ yX6_sum.cls ≠ "java/lang/invoke/VarHandle" ∧ (parseMethodDescriptor yX6_sum.desc).map (fun d => d.parameters.length) = some 1 := by decide +kernel
theorem hd_X6_test : yX6_test.cls ≠ "java/lang/invoke/MethodHandle" ∧ yX6_test.cls ≠ "java/lang/invoke/VarHandle" ∧ (parseMethodDescriptor yX6_test.desc).map (fun d => d.parameters.length) = some 1 := by decide +kernel
abbrev rm_J6_bitCount_0f7a4 : Room := { frames := 0, cells := 0, slots := 0, locals := 0 }
set_option maxHeartbeats 4000000 in
set_option maxRecDepth 100000 in
theorem j_J6_bitCount_0f7a4 {p : Program} {l : Launch} {e : Env} {s : State} {m : MethodId} {args : Array Value} {below : List Frame} {meth : Method} {c : Code} {b : Nat} {D : va_G} {cy : Nat → ClassId} {G : Gm} {v0 : Int32} {S : St} {Q : Int32 → St → Prop} (C : CX p s m args meth c b D cy cJ6_bitCount_0f7a4 RJ6 1 (some .int)) (hE : s.heap.size + 0 ≤ b + G.2.2) (h : f_J6_bitCount_0f7a4 G v0 Q S) : J p l e rm_J6_bitCount_0f7a4 s m args below meth c b D cy 1 (zI b D cy below args s G Q) 0 0 G S 0 [(0, .int v0)] [] := by
  unfold f_J6_bitCount_0f7a4 at h
  refine jB C [(.iload_n 0, 1, 0), (.iload_n 0, 1, 0), (.iconst 1, 1, 1), (.iushr, 1, 0)] 4 [(0, .int v0)] [.int ((v0.toUInt32 >>> ((1 : Int32).toUInt32 &&& Int32.toUInt32 31)).toInt32), .int v0] (by decide +kernel) rfl rfl ?_
  refine jLdcw C 7 (by decide +kernel : decode cJ6_bitCount_0f7a4 4 = .ok (.ldc_w 265, 3)) rfl wd_1009 ?_
  refine jB C [(.iand, 1, 0), (.isub, 1, 0)] 9 [(0, .int v0)] [.int (v0 - (((v0.toUInt32 >>> ((1 : Int32).toUInt32 &&& Int32.toUInt32 31)).toInt32) &&& 1431655765))] (by decide +kernel) rfl rfl ?_
  refine jTopI (fun x1 e_x1 => ?_)
  have h := h x1 e_x1
  refine jB C [(.istore_n 0, 1, 0), (.iload_n 0, 1, 0)] 11 [(0, .int x1)] [.int x1] (by decide +kernel) rfl rfl ?_
  refine jLdcw C 14 (by decide +kernel : decode cJ6_bitCount_0f7a4 11 = .ok (.ldc_w 266, 3)) rfl wd_1010 ?_
  refine jB C [(.iand, 1, 0), (.iload_n 0, 1, 0), (.iconst 2, 1, 2), (.iushr, 1, 0)] 18 [(0, .int x1)] [.int ((x1.toUInt32 >>> ((2 : Int32).toUInt32 &&& Int32.toUInt32 31)).toInt32), .int (x1 &&& 858993459)] (by decide +kernel) rfl rfl ?_
  refine jLdcw C 21 (by decide +kernel : decode cJ6_bitCount_0f7a4 18 = .ok (.ldc_w 266, 3)) rfl wd_1010 ?_
  refine jB C [(.iand, 1, 0), (.iadd, 1, 0)] 23 [(0, .int x1)] [.int ((x1 &&& 858993459) + (((x1.toUInt32 >>> ((2 : Int32).toUInt32 &&& Int32.toUInt32 31)).toInt32) &&& 858993459))] (by decide +kernel) rfl rfl ?_
  refine jTopI (fun x2 e_x2 => ?_)
  have h := h x2 e_x2
  refine jB C [(.istore_n 0, 1, 0), (.iload_n 0, 1, 0), (.iload_n 0, 1, 0), (.iconst 4, 1, 4), (.iushr, 1, 0), (.iadd, 1, 0)] 29 [(0, .int x2)] [.int (x2 + ((x2.toUInt32 >>> ((4 : Int32).toUInt32 &&& Int32.toUInt32 31)).toInt32))] (by decide +kernel) rfl rfl ?_
  refine jLdcw C 32 (by decide +kernel : decode cJ6_bitCount_0f7a4 29 = .ok (.ldc_w 267, 3)) rfl wd_1011 ?_
  refine jB C [(.iand, 1, 0)] 33 [(0, .int x2)] [.int ((x2 + ((x2.toUInt32 >>> ((4 : Int32).toUInt32 &&& Int32.toUInt32 31)).toInt32)) &&& 252645135)] (by decide +kernel) rfl rfl ?_
  refine jTopI (fun x3 e_x3 => ?_)
  have h := h x3 e_x3
  refine jB C [(.istore_n 0, 1, 0), (.iload_n 0, 1, 0), (.iload_n 0, 1, 0), (.bipush 8, 2, 8), (.iushr, 1, 0), (.iadd, 1, 0)] 40 [(0, .int x3)] [.int (x3 + ((x3.toUInt32 >>> ((8 : Int32).toUInt32 &&& Int32.toUInt32 31)).toInt32))] (by decide +kernel) rfl rfl ?_
  refine jTopI (fun x4 e_x4 => ?_)
  have h := h x4 e_x4
  refine jB C [(.istore_n 0, 1, 0), (.iload_n 0, 1, 0), (.iload_n 0, 1, 0), (.bipush 16, 2, 16), (.iushr, 1, 0), (.iadd, 1, 0)] 47 [(0, .int x4)] [.int (x4 + ((x4.toUInt32 >>> ((16 : Int32).toUInt32 &&& Int32.toUInt32 31)).toInt32))] (by decide +kernel) rfl rfl ?_
  refine jTopI (fun x5 e_x5 => ?_)
  have h := h x5 e_x5
  refine jB C [(.istore_n 0, 1, 0), (.iload_n 0, 1, 0), (.bipush 63, 2, 63), (.iand, 1, 0)] 52 [(0, .int x5)] [.int (x5 &&& 63)] (by decide +kernel) rfl rfl ?_
  exact jRetI C (by decide +kernel : decode cJ6_bitCount_0f7a4 52 = .ok (.ireturn, 1)) (Nat.le_refl _) (Nat.le_refl _) ⟨rfl, h⟩
theorem ok_J6_bitCount_0f7a4 {G : Gm} {v0 : Int32} {S : St} {Q : Int32 → St → Prop}  (h : f_J6_bitCount_0f7a4 G v0 Q S) : MT yJ6_bitCount_0f7a4 cJ6_bitCount_0f7a4 1 (some .int) rm_J6_bitCount_0f7a4 0 0 (fun b => [.int v0]) G S (QI (fun r G1 S1 => G1 = G ∧ Q r S1)) := MT.ofJF (by decide +kernel) (fun b => [(0, .int v0)]) (fun b => rfl) (fun b => Nat.le_of_ble_eq_true rfl) (fun l b D cy p e s m below meth c C hE hn => j_J6_bitCount_0f7a4 C hE h)
theorem hd_J6_bitCount_0f7a4 : yJ6_bitCount_0f7a4.cls ≠ "java/lang/invoke/MethodHandle" ∧ yJ6_bitCount_0f7a4.cls ≠ "java/lang/invoke/VarHandle" ∧ (parseMethodDescriptor yJ6_bitCount_0f7a4.desc).map (fun d => d.parameters.length) = some 1 := by decide +kernel
abbrev rm_J9_floorMod_7cf53 : Room := { frames := 0, cells := 0, slots := 0, locals := 0 }
set_option maxHeartbeats 4000000 in
set_option maxRecDepth 100000 in
theorem j_J9_floorMod_7cf53 {p : Program} {l : Launch} {e : Env} {s : State} {m : MethodId} {args : Array Value} {below : List Frame} {meth : Method} {c : Code} {b : Nat} {D : va_G} {cy : Nat → ClassId} {G : Gm} {v0 : Int32} {v1 : Int32} {S : St} {Q : Int32 → St → Prop} (C : CX p s m args meth c b D cy cJ9_floorMod_7cf53 RJ9 3 (some .int)) (hE : s.heap.size + 0 ≤ b + G.2.2) (h : f_J9_floorMod_7cf53 G v0 v1 Q S) : J p l e rm_J9_floorMod_7cf53 s m args below meth c b D cy 3 (zI b D cy below args s G Q) 0 0 G S 0 [(0, .int v0), (1, .int v1)] [] := by
  unfold f_J9_floorMod_7cf53 at h
  refine jB C [(.iload_n 0, 1, 0), (.iload_n 1, 1, 0)] 2 [(0, .int v0), (1, .int v1)] [.int v1, .int v0] (by decide +kernel) rfl rfl ?_
  obtain ⟨y4, h⟩ := h
  refine jIrem C 3 (by decide +kernel : decode cJ9_floorMod_7cf53 2 = .ok (.irem, 1)) rfl y4 ?_
  refine jTopI (fun x1 e_x1 => ?_)
  have h := h x1 e_x1
  refine jB C [(.istore_n 2, 1, 0), (.iload_n 0, 1, 0), (.iload_n 1, 1, 0), (.ixor, 1, 0)] 7 [(2, .int x1), (0, .int v0), (1, .int v1)] [.int (v0 ^^^ v1)] (by decide +kernel) rfl rfl ?_
  refine jIf_ge C 10 18 (by decide +kernel : decode cJ9_floorMod_7cf53 7 = .ok (.ifCond .ge 11, 3)) rfl rfl (fun c2 => ?_) (fun c2 => ?_)
  · have h := it1 h c2
    refine jB C [(.iload_n 2, 1, 0)] 19 [(2, .int x1), (0, .int v0), (1, .int v1)] [.int x1] (by decide +kernel) rfl rfl ?_
    exact jRetI C (by decide +kernel : decode cJ9_floorMod_7cf53 19 = .ok (.ireturn, 1)) (Nat.le_refl _) (Nat.le_refl _) ⟨rfl, h⟩
  · have h := it2 h c2
    refine jB C [(.iload_n 2, 1, 0)] 11 [(2, .int x1), (0, .int v0), (1, .int v1)] [.int x1] (by decide +kernel) rfl rfl ?_
    refine jIf_eq C 14 18 (by decide +kernel : decode cJ9_floorMod_7cf53 11 = .ok (.ifCond .eq 7, 3)) rfl rfl (fun c3 => ?_) (fun c3 => ?_)
    · have h := it1 h c3
      refine jB C [(.iload_n 2, 1, 0)] 19 [(2, .int x1), (0, .int v0), (1, .int v1)] [.int x1] (by decide +kernel) rfl rfl ?_
      exact jRetI C (by decide +kernel : decode cJ9_floorMod_7cf53 19 = .ok (.ireturn, 1)) (Nat.le_refl _) (Nat.le_refl _) ⟨rfl, h⟩
    · have h := it2 h c3
      refine jB C [(.iload_n 2, 1, 0), (.iload_n 1, 1, 0), (.iadd, 1, 0)] 17 [(2, .int x1), (0, .int v0), (1, .int v1)] [.int (x1 + v1)] (by decide +kernel) rfl rfl ?_
      exact jRetI C (by decide +kernel : decode cJ9_floorMod_7cf53 17 = .ok (.ireturn, 1)) (Nat.le_refl _) (Nat.le_refl _) ⟨rfl, h⟩
theorem ok_J9_floorMod_7cf53 {G : Gm} {v0 : Int32} {v1 : Int32} {S : St} {Q : Int32 → St → Prop}  (h : f_J9_floorMod_7cf53 G v0 v1 Q S) : MT yJ9_floorMod_7cf53 cJ9_floorMod_7cf53 3 (some .int) rm_J9_floorMod_7cf53 0 0 (fun b => [.int v0, .int v1]) G S (QI (fun r G1 S1 => G1 = G ∧ Q r S1)) := MT.ofJF (by decide +kernel) (fun b => [(0, .int v0), (1, .int v1)]) (fun b => rfl) (fun b => Nat.le_of_ble_eq_true rfl) (fun l b D cy p e s m below meth c C hE hn => j_J9_floorMod_7cf53 C hE h)
theorem hd_J9_floorMod_7cf53 : yJ9_floorMod_7cf53.cls ≠ "java/lang/invoke/MethodHandle" ∧ yJ9_floorMod_7cf53.cls ≠ "java/lang/invoke/VarHandle" ∧ (parseMethodDescriptor yJ9_floorMod_7cf53.desc).map (fun d => d.parameters.length) = some 2 := by decide +kernel
abbrev rm_X5_copyFrom : Room := { frames := 1, cells := 0, slots := 0, locals := 60 }
set_option maxHeartbeats 4000000 in
set_option maxRecDepth 100000 in
theorem j_X5_copyFrom_115_n {p : Program} {l : Launch} {e : Env} {s : State} {m : MethodId} {args : Array Value} {below : List Frame} {meth : Method} {c : Code} {b : Nat} {D : va_G} {cy : Nat → ClassId} {G : Gm} {v0 : Nat} {v1 : Nat} {Q : St → Prop} (C : CX p s m args meth c b D cy cX5_copyFrom RX5 3 none) (hE : s.heap.size + 0 ≤ b + G.2.2) (t_v0 : ok G 4 v0) (t_v1 : ok G 4 v1) : ∀ k (v2 : Int32) S, f_X5_copyFrom_115_n G v0 v1 Q k v2 S → J p l e rm_X5_copyFrom s m args below meth c b D cy 3 (zV b D cy below args s G Q) 0 0 G S 115 [(0, .ref (b + v0)), (1, .ref (b + v1)), (2, .int v2)] [] := by
  intro k
  induction k with
  | zero => intro v2 S h; exact h.elim
  | succ k ih =>
    intro v2 S h
    unfold f_X5_copyFrom_115_n at h
    refine jB C [(.iload_n 2, 1, 0), (.bipush 6, 2, 6)] 118 [(0, .ref (b + v0)), (1, .ref (b + v1)), (2, .int v2)] [.int 6, .int v2] (by decide +kernel) rfl rfl ?_
    refine jIcmp_ge C 121 139 (by decide +kernel : decode cX5_copyFrom 118 = .ok (.if_icmp .ge 21, 3)) rfl rfl (fun c1 => ?_) (fun c1 => ?_)
    · have h := it1 h c1
      refine jB C [(.aload_n 0, 1, 0), (.aload_n 1, 1, 0)] 141 [(0, .ref (b + v0)), (1, .ref (b + v1)), (2, .int v2)] [.ref (b + v1), .ref (b + v0)] (by decide +kernel) rfl rfl ?_
      refine jGetI C 144 (by decide +kernel : decode cX5_copyFrom 141 = .ok (.getfield 36, 3)) rfl t_v1 kX5 10 (by decide) rfl rfl (by decide) wd_56 ?_
      refine jPutI C 147 (by decide +kernel : decode cX5_copyFrom 144 = .ok (.putfield 36, 3)) rfl hE t_v0 kX5 10 (by decide) rfl rfl (by decide) rfl wd_56 rfl rfl rfl ?_
      refine jTopS (fun S2 e_S2 => ?_)
      have h := h S2 e_S2
      exact jRetV C (by decide +kernel : decode cX5_copyFrom 147 = .ok (.return_, 1)) (Nat.le_refl _) (Nat.le_refl _) ⟨rfl, h⟩
    · have h := it2 h c1
      refine jB C [(.aload_n 0, 1, 0)] 122 [(0, .ref (b + v0)), (1, .ref (b + v1)), (2, .int v2)] [.ref (b + v0)] (by decide +kernel) rfl rfl ?_
      obtain ⟨a3, e_a3, h⟩ := h
      refine jGetR C 125 (by decide +kernel : decode cX5_copyFrom 122 = .ok (.getfield 32, 3)) rfl t_v0 kX5 9 (by decide) rfl rfl (by decide) wd_55 e_a3 rfl (fun t_a3 => ?_)
      refine jB C [(.iload_n 2, 1, 0), (.aload_n 1, 1, 0)] 127 [(0, .ref (b + v0)), (1, .ref (b + v1)), (2, .int v2)] [.ref (b + v1), .int v2, .ref (b + a3)] (by decide +kernel) rfl rfl ?_
      obtain ⟨a4, e_a4, h⟩ := h
      refine jGetR C 130 (by decide +kernel : decode cX5_copyFrom 127 = .ok (.getfield 32, 3)) rfl t_v1 kX5 9 (by decide) rfl rfl (by decide) wd_55 e_a4 rfl (fun t_a4 => ?_)
      refine jB C [(.iload_n 2, 1, 0)] 131 [(0, .ref (b + v0)), (1, .ref (b + v1)), (2, .int v2)] [.int v2, .ref (b + a4), .int v2, .ref (b + a3)] (by decide +kernel) rfl rfl ?_
      obtain ⟨y5, h⟩ := h
      refine jAald15 C 132 (by decide +kernel : decode cX5_copyFrom 131 = .ok (.aaload, 1)) rfl t_a4 y5 (fun t6 => ?_)
      refine jTopQ (fun r7 e_r7 => ?_)
      rw [← e_r7] at t6
      have h := h r7 e_r7
      obtain ⟨y8, h⟩ := h
      refine jAast15Q C 133 (by decide +kernel : decode cX5_copyFrom 132 = .ok (.aastore, 1)) rfl hE t_a3 y8 t6 ?_
      refine jTopS (fun S9 e_S9 => ?_)
      have h := h S9 e_S9
      refine jB C [(.iinc 2 1, 3, 1)] 136 [(2, .int (v2 + 1)), (0, .ref (b + v0)), (1, .ref (b + v1))] [] (by decide +kernel) rfl rfl ?_
      refine jGoto C 115 (by decide +kernel : decode cX5_copyFrom 136 = .ok (.goto (-21), 3)) rfl ?_
      refine jSub [1, 2, 0] rfl ?_
      exact ih (v2 + 1) S9 h
theorem j_X5_copyFrom_115 {p : Program} {l : Launch} {e : Env} {s : State} {m : MethodId} {args : Array Value} {below : List Frame} {meth : Method} {c : Code} {b : Nat} {D : va_G} {cy : Nat → ClassId} {G : Gm} {v0 : Nat} {v1 : Nat} {v2 : Int32} {S : St} {Q : St → Prop} (C : CX p s m args meth c b D cy cX5_copyFrom RX5 3 none) (hE : s.heap.size + 0 ≤ b + G.2.2) (t_v0 : ok G 4 v0) (t_v1 : ok G 4 v1) (h : f_X5_copyFrom_115 G v0 v1 Q v2 S) : J p l e rm_X5_copyFrom s m args below meth c b D cy 3 (zV b D cy below args s G Q) 0 0 G S 115 [(0, .ref (b + v0)), (1, .ref (b + v1)), (2, .int v2)] [] := by
  obtain ⟨k, h⟩ := h
  exact j_X5_copyFrom_115_n C hE t_v0 t_v1 k v2 S h
set_option maxHeartbeats 4000000 in
set_option maxRecDepth 100000 in
theorem j_X5_copyFrom {p : Program} {l : Launch} {e : Env} {s : State} {m : MethodId} {args : Array Value} {below : List Frame} {meth : Method} {c : Code} {b : Nat} {D : va_G} {cy : Nat → ClassId} {G : Gm} {v0 : Nat} {v1 : Nat} {S : St} {Q : St → Prop} (C : CX p s m args meth c b D cy cX5_copyFrom RX5 3 none) (hE : s.heap.size + 0 ≤ b + G.2.2) (t_v0 : ok G 4 v0) (t_v1 : ok G 4 v1) (h : f_X5_copyFrom G v0 v1 Q S) : J p l e rm_X5_copyFrom s m args below meth c b D cy 3 (zV b D cy below args s G Q) 0 0 G S 0 [(0, .ref (b + v0)), (1, .ref (b + v1))] [] := by
  unfold f_X5_copyFrom at h
  refine jB C [(.aload_n 0, 1, 0), (.aload_n 1, 1, 0)] 2 [(0, .ref (b + v0)), (1, .ref (b + v1))] [.ref (b + v1), .ref (b + v0)] (by decide +kernel) rfl rfl ?_
  refine jGetI C 5 (by decide +kernel : decode cX5_copyFrom 2 = .ok (.getfield 40, 3)) rfl t_v1 kX5 0 (by decide) rfl rfl (by decide) wd_36 ?_
  refine jPutI C 8 (by decide +kernel : decode cX5_copyFrom 5 = .ok (.putfield 40, 3)) rfl hE t_v0 kX5 0 (by decide) rfl rfl (by decide) rfl wd_36 rfl rfl rfl ?_
  refine jTopS (fun S1 e_S1 => ?_)
  have h := h S1 e_S1
  refine jB C [(.aload_n 1, 1, 0)] 9 [(0, .ref (b + v0)), (1, .ref (b + v1))] [.ref (b + v1)] (by decide +kernel) rfl rfl ?_
  obtain ⟨a2, e_a2, h⟩ := h
  refine jGetR C 12 (by decide +kernel : decode cX5_copyFrom 9 = .ok (.getfield 9, 3)) rfl t_v1 kX5 1 (by decide) rfl rfl (by decide) wd_40 e_a2 rfl (fun t_a2 => ?_)
  refine jB C [(.iconst 0, 1, 0), (.aload_n 0, 1, 0)] 14 [(0, .ref (b + v0)), (1, .ref (b + v1))] [.ref (b + v0), .int 0, .ref (b + a2)] (by decide +kernel) rfl rfl ?_
  obtain ⟨a3, e_a3, h⟩ := h
  refine jGetR C 17 (by decide +kernel : decode cX5_copyFrom 14 = .ok (.getfield 9, 3)) rfl t_v0 kX5 1 (by decide) rfl rfl (by decide) wd_40 e_a3 rfl (fun t_a3 => ?_)
  refine jB C [(.iconst 0, 1, 0), (.bipush 24, 2, 24)] 20 [(0, .ref (b + v0)), (1, .ref (b + v1))] [.int 24, .int 0, .ref (b + a3), .int 0, .ref (b + a2)] (by decide +kernel) rfl rfl ?_
  obtain ⟨y4, h⟩ := h
  refine jCopy C 23 (by decide +kernel : decode cX5_copyFrom 20 = .ok (.invokestatic 43, 3)) rfl hE t_a2 t_a3 y4 wd_784 (Nat.le_of_ble_eq_true rfl) (Nat.le_of_ble_eq_true rfl) (Nat.le_of_ble_eq_true rfl) ?_
  refine jTopS (fun S5 e_S5 => ?_)
  have h := h S5 e_S5
  refine jB C [(.aload_n 1, 1, 0)] 24 [(0, .ref (b + v0)), (1, .ref (b + v1))] [.ref (b + v1)] (by decide +kernel) rfl rfl ?_
  obtain ⟨a6, e_a6, h⟩ := h
  refine jGetR C 27 (by decide +kernel : decode cX5_copyFrom 24 = .ok (.getfield 15, 3)) rfl t_v1 kX5 2 (by decide) rfl rfl (by decide) wd_42 e_a6 rfl (fun t_a6 => ?_)
  refine jB C [(.iconst 0, 1, 0), (.aload_n 0, 1, 0)] 29 [(0, .ref (b + v0)), (1, .ref (b + v1))] [.ref (b + v0), .int 0, .ref (b + a6)] (by decide +kernel) rfl rfl ?_
  obtain ⟨a7, e_a7, h⟩ := h
  refine jGetR C 32 (by decide +kernel : decode cX5_copyFrom 29 = .ok (.getfield 15, 3)) rfl t_v0 kX5 2 (by decide) rfl rfl (by decide) wd_42 e_a7 rfl (fun t_a7 => ?_)
  refine jB C [(.iconst 0, 1, 0), (.bipush 6, 2, 6)] 35 [(0, .ref (b + v0)), (1, .ref (b + v1))] [.int 6, .int 0, .ref (b + a7), .int 0, .ref (b + a6)] (by decide +kernel) rfl rfl ?_
  obtain ⟨y8, h⟩ := h
  refine jCopy C 38 (by decide +kernel : decode cX5_copyFrom 35 = .ok (.invokestatic 43, 3)) rfl hE t_a6 t_a7 y8 wd_784 (Nat.le_of_ble_eq_true rfl) (Nat.le_of_ble_eq_true rfl) (Nat.le_of_ble_eq_true rfl) ?_
  refine jTopS (fun S9 e_S9 => ?_)
  have h := h S9 e_S9
  refine jB C [(.aload_n 1, 1, 0)] 39 [(0, .ref (b + v0)), (1, .ref (b + v1))] [.ref (b + v1)] (by decide +kernel) rfl rfl ?_
  obtain ⟨a10, e_a10, h⟩ := h
  refine jGetR C 42 (by decide +kernel : decode cX5_copyFrom 39 = .ok (.getfield 18, 3)) rfl t_v1 kX5 3 (by decide) rfl rfl (by decide) wd_44 e_a10 rfl (fun t_a10 => ?_)
  refine jB C [(.iconst 0, 1, 0), (.aload_n 0, 1, 0)] 44 [(0, .ref (b + v0)), (1, .ref (b + v1))] [.ref (b + v0), .int 0, .ref (b + a10)] (by decide +kernel) rfl rfl ?_
  obtain ⟨a11, e_a11, h⟩ := h
  refine jGetR C 47 (by decide +kernel : decode cX5_copyFrom 44 = .ok (.getfield 18, 3)) rfl t_v0 kX5 3 (by decide) rfl rfl (by decide) wd_44 e_a11 rfl (fun t_a11 => ?_)
  refine jB C [(.iconst 0, 1, 0), (.bipush 6, 2, 6)] 50 [(0, .ref (b + v0)), (1, .ref (b + v1))] [.int 6, .int 0, .ref (b + a11), .int 0, .ref (b + a10)] (by decide +kernel) rfl rfl ?_
  obtain ⟨y12, h⟩ := h
  refine jCopy C 53 (by decide +kernel : decode cX5_copyFrom 50 = .ok (.invokestatic 43, 3)) rfl hE t_a10 t_a11 y12 wd_784 (Nat.le_of_ble_eq_true rfl) (Nat.le_of_ble_eq_true rfl) (Nat.le_of_ble_eq_true rfl) ?_
  refine jTopS (fun S13 e_S13 => ?_)
  have h := h S13 e_S13
  refine jB C [(.aload_n 1, 1, 0)] 54 [(0, .ref (b + v0)), (1, .ref (b + v1))] [.ref (b + v1)] (by decide +kernel) rfl rfl ?_
  obtain ⟨a14, e_a14, h⟩ := h
  refine jGetR C 57 (by decide +kernel : decode cX5_copyFrom 54 = .ok (.getfield 21, 3)) rfl t_v1 kX5 4 (by decide) rfl rfl (by decide) wd_45 e_a14 rfl (fun t_a14 => ?_)
  refine jB C [(.iconst 0, 1, 0), (.aload_n 0, 1, 0)] 59 [(0, .ref (b + v0)), (1, .ref (b + v1))] [.ref (b + v0), .int 0, .ref (b + a14)] (by decide +kernel) rfl rfl ?_
  obtain ⟨a15, e_a15, h⟩ := h
  refine jGetR C 62 (by decide +kernel : decode cX5_copyFrom 59 = .ok (.getfield 21, 3)) rfl t_v0 kX5 4 (by decide) rfl rfl (by decide) wd_45 e_a15 rfl (fun t_a15 => ?_)
  refine jB C [(.iconst 0, 1, 0), (.iconst 4, 1, 4)] 64 [(0, .ref (b + v0)), (1, .ref (b + v1))] [.int 4, .int 0, .ref (b + a15), .int 0, .ref (b + a14)] (by decide +kernel) rfl rfl ?_
  obtain ⟨y16, h⟩ := h
  refine jCopy C 67 (by decide +kernel : decode cX5_copyFrom 64 = .ok (.invokestatic 43, 3)) rfl hE t_a14 t_a15 y16 wd_784 (Nat.le_of_ble_eq_true rfl) (Nat.le_of_ble_eq_true rfl) (Nat.le_of_ble_eq_true rfl) ?_
  refine jTopS (fun S17 e_S17 => ?_)
  have h := h S17 e_S17
  refine jB C [(.aload_n 0, 1, 0), (.aload_n 1, 1, 0)] 69 [(0, .ref (b + v0)), (1, .ref (b + v1))] [.ref (b + v1), .ref (b + v0)] (by decide +kernel) rfl rfl ?_
  refine jGetI C 72 (by decide +kernel : decode cX5_copyFrom 69 = .ok (.getfield 49, 3)) rfl t_v1 kX5 5 (by decide) rfl rfl (by decide) wd_46 ?_
  refine jPutI C 75 (by decide +kernel : decode cX5_copyFrom 72 = .ok (.putfield 49, 3)) rfl hE t_v0 kX5 5 (by decide) rfl rfl (by decide) rfl wd_46 rfl rfl rfl ?_
  refine jTopS (fun S18 e_S18 => ?_)
  have h := h S18 e_S18
  refine jB C [(.aload_n 1, 1, 0)] 76 [(0, .ref (b + v0)), (1, .ref (b + v1))] [.ref (b + v1)] (by decide +kernel) rfl rfl ?_
  obtain ⟨a19, e_a19, h⟩ := h
  refine jGetR C 79 (by decide +kernel : decode cX5_copyFrom 76 = .ok (.getfield 24, 3)) rfl t_v1 kX5 6 (by decide) rfl rfl (by decide) wd_49 e_a19 rfl (fun t_a19 => ?_)
  refine jB C [(.iconst 0, 1, 0), (.aload_n 0, 1, 0)] 81 [(0, .ref (b + v0)), (1, .ref (b + v1))] [.ref (b + v0), .int 0, .ref (b + a19)] (by decide +kernel) rfl rfl ?_
  obtain ⟨a20, e_a20, h⟩ := h
  refine jGetR C 84 (by decide +kernel : decode cX5_copyFrom 81 = .ok (.getfield 24, 3)) rfl t_v0 kX5 6 (by decide) rfl rfl (by decide) wd_49 e_a20 rfl (fun t_a20 => ?_)
  refine jB C [(.iconst 0, 1, 0), (.bipush 8, 2, 8)] 87 [(0, .ref (b + v0)), (1, .ref (b + v1))] [.int 8, .int 0, .ref (b + a20), .int 0, .ref (b + a19)] (by decide +kernel) rfl rfl ?_
  obtain ⟨y21, h⟩ := h
  refine jCopy C 90 (by decide +kernel : decode cX5_copyFrom 87 = .ok (.invokestatic 43, 3)) rfl hE t_a19 t_a20 y21 wd_784 (Nat.le_of_ble_eq_true rfl) (Nat.le_of_ble_eq_true rfl) (Nat.le_of_ble_eq_true rfl) ?_
  refine jTopS (fun S22 e_S22 => ?_)
  have h := h S22 e_S22
  refine jB C [(.aload_n 1, 1, 0)] 91 [(0, .ref (b + v0)), (1, .ref (b + v1))] [.ref (b + v1)] (by decide +kernel) rfl rfl ?_
  obtain ⟨a23, e_a23, h⟩ := h
  refine jGetR C 94 (by decide +kernel : decode cX5_copyFrom 91 = .ok (.getfield 27, 3)) rfl t_v1 kX5 7 (by decide) rfl rfl (by decide) wd_51 e_a23 rfl (fun t_a23 => ?_)
  refine jB C [(.iconst 0, 1, 0), (.aload_n 0, 1, 0)] 96 [(0, .ref (b + v0)), (1, .ref (b + v1))] [.ref (b + v0), .int 0, .ref (b + a23)] (by decide +kernel) rfl rfl ?_
  obtain ⟨a24, e_a24, h⟩ := h
  refine jGetR C 99 (by decide +kernel : decode cX5_copyFrom 96 = .ok (.getfield 27, 3)) rfl t_v0 kX5 7 (by decide) rfl rfl (by decide) wd_51 e_a24 rfl (fun t_a24 => ?_)
  refine jB C [(.iconst 0, 1, 0), (.bipush 8, 2, 8)] 102 [(0, .ref (b + v0)), (1, .ref (b + v1))] [.int 8, .int 0, .ref (b + a24), .int 0, .ref (b + a23)] (by decide +kernel) rfl rfl ?_
  obtain ⟨y25, h⟩ := h
  refine jCopy C 105 (by decide +kernel : decode cX5_copyFrom 102 = .ok (.invokestatic 43, 3)) rfl hE t_a23 t_a24 y25 wd_784 (Nat.le_of_ble_eq_true rfl) (Nat.le_of_ble_eq_true rfl) (Nat.le_of_ble_eq_true rfl) ?_
  refine jTopS (fun S26 e_S26 => ?_)
  have h := h S26 e_S26
  refine jB C [(.aload_n 0, 1, 0), (.aload_n 1, 1, 0)] 107 [(0, .ref (b + v0)), (1, .ref (b + v1))] [.ref (b + v1), .ref (b + v0)] (by decide +kernel) rfl rfl ?_
  refine jGetI C 110 (by decide +kernel : decode cX5_copyFrom 107 = .ok (.getfield 52, 3)) rfl t_v1 kX5 8 (by decide) rfl rfl (by decide) wd_53 ?_
  refine jPutI C 113 (by decide +kernel : decode cX5_copyFrom 110 = .ok (.putfield 52, 3)) rfl hE t_v0 kX5 8 (by decide) rfl rfl (by decide) rfl wd_53 rfl rfl rfl ?_
  refine jTopS (fun S27 e_S27 => ?_)
  have h := h S27 e_S27
  refine jB C [(.iconst 0, 1, 0), (.istore_n 2, 1, 0)] 115 [(2, .int 0), (0, .ref (b + v0)), (1, .ref (b + v1))] [] (by decide +kernel) rfl rfl ?_
  refine jSub [1, 2, 0] rfl ?_
  exact j_X5_copyFrom_115 C hE t_v0 t_v1 h
theorem ok_X5_copyFrom {G : Gm} {v0 : Nat} {v1 : Nat} {S : St} {Q : St → Prop}  (t_v0 : ok G 4 v0) (t_v1 : ok G 4 v1) (h : f_X5_copyFrom G v0 v1 Q S) : MT yX5_copyFrom cX5_copyFrom 3 none rm_X5_copyFrom 0 0 (fun b => [.ref (b + v0), .ref (b + v1)]) G S (QV (fun G1 S1 => G1 = G ∧ Q S1)) := MT.ofJ (by decide +kernel) (fun b => [(0, .ref (b + v0)), (1, .ref (b + v1))]) (fun b => rfl) (fun b => Nat.le_of_ble_eq_true rfl) (fun l b D cy p e s m below meth c C hE hn => j_X5_copyFrom C hE t_v0 t_v1 h)
theorem hd_X5_copyFrom : yX5_copyFrom.cls ≠ "java/lang/invoke/MethodHandle" ∧ yX5_copyFrom.cls ≠ "java/lang/invoke/VarHandle" ∧ (parseMethodDescriptor yX5_copyFrom.desc).map (fun d => d.parameters.length) = some 1 := by decide +kernel
abbrev rm_X9_copyFrom : Room := { frames := 1, cells := 0, slots := 0, locals := 60 }
set_option maxHeartbeats 4000000 in
set_option maxRecDepth 100000 in
theorem j_X9_copyFrom {p : Program} {l : Launch} {e : Env} {s : State} {m : MethodId} {args : Array Value} {below : List Frame} {meth : Method} {c : Code} {b : Nat} {D : va_G} {cy : Nat → ClassId} {G : Gm} {v0 : Nat} {v1 : Nat} {S : St} {Q : St → Prop} (C : CX p s m args meth c b D cy cX9_copyFrom RX9 2 none) (hE : s.heap.size + 0 ≤ b + G.2.2) (t_v0 : ok G 8 v0) (t_v1 : ok G 8 v1) (h : f_X9_copyFrom G v0 v1 Q S) : J p l e rm_X9_copyFrom s m args below meth c b D cy 2 (zV b D cy below args s G Q) 0 0 G S 0 [(0, .ref (b + v0)), (1, .ref (b + v1))] [] := by
  unfold f_X9_copyFrom at h
  refine jB C [(.aload_n 1, 1, 0)] 1 [(0, .ref (b + v0)), (1, .ref (b + v1))] [.ref (b + v1)] (by decide +kernel) rfl rfl ?_
  obtain ⟨a1, e_a1, h⟩ := h
  refine jGetR C 4 (by decide +kernel : decode cX9_copyFrom 1 = .ok (.getfield 11, 3)) rfl t_v1 kX9 0 (by decide) rfl rfl (by decide) wd_89 e_a1 rfl (fun t_a1 => ?_)
  refine jB C [(.iconst 0, 1, 0), (.aload_n 0, 1, 0)] 6 [(0, .ref (b + v0)), (1, .ref (b + v1))] [.ref (b + v0), .int 0, .ref (b + a1)] (by decide +kernel) rfl rfl ?_
  obtain ⟨a2, e_a2, h⟩ := h
  refine jGetR C 9 (by decide +kernel : decode cX9_copyFrom 6 = .ok (.getfield 11, 3)) rfl t_v0 kX9 0 (by decide) rfl rfl (by decide) wd_89 e_a2 rfl (fun t_a2 => ?_)
  refine jB C [(.iconst 0, 1, 0), (.sipush 512, 3, 512)] 13 [(0, .ref (b + v0)), (1, .ref (b + v1))] [.int 512, .int 0, .ref (b + a2), .int 0, .ref (b + a1)] (by decide +kernel) rfl rfl ?_
  obtain ⟨y3, h⟩ := h
  refine jCopy C 16 (by decide +kernel : decode cX9_copyFrom 13 = .ok (.invokestatic 19, 3)) rfl hE t_a1 t_a2 y3 wd_789 (Nat.le_of_ble_eq_true rfl) (Nat.le_of_ble_eq_true rfl) (Nat.le_of_ble_eq_true rfl) ?_
  refine jTopS (fun S4 e_S4 => ?_)
  have h := h S4 e_S4
  refine jB C [(.aload_n 0, 1, 0), (.aload_n 1, 1, 0)] 18 [(0, .ref (b + v0)), (1, .ref (b + v1))] [.ref (b + v1), .ref (b + v0)] (by decide +kernel) rfl rfl ?_
  refine jGetI C 21 (by decide +kernel : decode cX9_copyFrom 18 = .ok (.getfield 25, 3)) rfl t_v1 kX9 1 (by decide) rfl rfl (by decide) wd_90 ?_
  refine jPutI C 24 (by decide +kernel : decode cX9_copyFrom 21 = .ok (.putfield 25, 3)) rfl hE t_v0 kX9 1 (by decide) rfl rfl (by decide) rfl wd_90 rfl rfl rfl ?_
  refine jTopS (fun S5 e_S5 => ?_)
  have h := h S5 e_S5
  refine jB C [(.aload_n 0, 1, 0), (.aload_n 1, 1, 0)] 26 [(0, .ref (b + v0)), (1, .ref (b + v1))] [.ref (b + v1), .ref (b + v0)] (by decide +kernel) rfl rfl ?_
  refine jGetI C 29 (by decide +kernel : decode cX9_copyFrom 26 = .ok (.getfield 15, 3)) rfl t_v1 kX9 2 (by decide) rfl rfl (by decide) wd_91 ?_
  refine jPutI C 32 (by decide +kernel : decode cX9_copyFrom 29 = .ok (.putfield 15, 3)) rfl hE t_v0 kX9 2 (by decide) rfl rfl (by decide) rfl wd_91 rfl rfl rfl ?_
  refine jTopS (fun S6 e_S6 => ?_)
  have h := h S6 e_S6
  exact jRetV C (by decide +kernel : decode cX9_copyFrom 32 = .ok (.return_, 1)) (Nat.le_refl _) (Nat.le_refl _) ⟨rfl, h⟩
theorem ok_X9_copyFrom {G : Gm} {v0 : Nat} {v1 : Nat} {S : St} {Q : St → Prop}  (t_v0 : ok G 8 v0) (t_v1 : ok G 8 v1) (h : f_X9_copyFrom G v0 v1 Q S) : MT yX9_copyFrom cX9_copyFrom 2 none rm_X9_copyFrom 0 0 (fun b => [.ref (b + v0), .ref (b + v1)]) G S (QV (fun G1 S1 => G1 = G ∧ Q S1)) := MT.ofJ (by decide +kernel) (fun b => [(0, .ref (b + v0)), (1, .ref (b + v1))]) (fun b => rfl) (fun b => Nat.le_of_ble_eq_true rfl) (fun l b D cy p e s m below meth c C hE hn => j_X9_copyFrom C hE t_v0 t_v1 h)
theorem hd_X9_copyFrom : yX9_copyFrom.cls ≠ "java/lang/invoke/MethodHandle" ∧ yX9_copyFrom.cls ≠ "java/lang/invoke/VarHandle" ∧ (parseMethodDescriptor yX9_copyFrom.desc).map (fun d => d.parameters.length) = some 1 := by decide +kernel
abbrev rm_X0_begin : Room := { frames := 2, cells := 0, slots := 0, locals := 82 }
set_option maxHeartbeats 4000000 in
set_option maxRecDepth 100000 in
theorem j_X0_begin {p : Program} {l : Launch} {e : Env} {s : State} {m : MethodId} {args : Array Value} {below : List Frame} {meth : Method} {c : Code} {b : Nat} {D : va_G} {cy : Nat → ClassId} {G : Gm} {v0 : Nat} {v1 : Nat} {v2 : Nat} {S : St} {Q : St → Prop} (C : CX p s m args meth c b D cy cX0_begin RX0 3 none) (hE : s.heap.size + 0 ≤ b + G.2.2) (t_v0 : ok G 0 v0) (t_v1 : ok G 4 v1) (t_v2 : ok G 8 v2) (h : f_X0_begin G v0 v1 v2 Q S) : J p l e rm_X0_begin s m args below meth c b D cy 3 (zV b D cy below args s G Q) 0 0 G S 0 [(0, .ref (b + v0)), (1, .ref (b + v1)), (2, .ref (b + v2))] [] := by
  unfold f_X0_begin at h
  refine jB C [(.aload_n 0, 1, 0)] 1 [(0, .ref (b + v0)), (1, .ref (b + v1)), (2, .ref (b + v2))] [.ref (b + v0)] (by decide +kernel) rfl rfl ?_
  obtain ⟨a1, e_a1, h⟩ := h
  refine jGetR C 4 (by decide +kernel : decode cX0_begin 1 = .ok (.getfield 12, 3)) rfl t_v0 kX0 0 (by decide) rfl rfl (by decide) wd_155 e_a1 rfl (fun t_a1 => ?_)
  refine jB C [(.aload_n 1, 1, 0)] 5 [(0, .ref (b + v0)), (1, .ref (b + v1)), (2, .ref (b + v2))] [.ref (b + v1), .ref (b + a1)] (by decide +kernel) rfl rfl ?_
  refine jcVN_V C 8 (rest := []) (ok_X5_copyFrom t_a1 t_v1 h) (by decide +kernel : decode cX0_begin 5 = .ok (.invokevirtual 50, 3)) rfl wn_780 wd_782 wp_63 wd_2 wd_783 ⟨rfl, rfl⟩ hd_X5_copyFrom ⟨Nat.le_of_ble_eq_true rfl, Nat.le_of_ble_eq_true rfl⟩ t_a1 kX5 (by decide) rfl rfl rfl (Nat.le_of_ble_eq_true rfl) ⟨Nat.zero_le _, Nat.zero_le _⟩ (fun S2 h => ?_)
  refine jB C [(.aload_n 0, 1, 0)] 9 [(0, .ref (b + v0)), (1, .ref (b + v1)), (2, .ref (b + v2))] [.ref (b + v0)] (by decide +kernel) rfl rfl ?_
  obtain ⟨a3, e_a3, h⟩ := h
  refine jGetR C 12 (by decide +kernel : decode cX0_begin 9 = .ok (.getfield 21, 3)) rfl t_v0 kX0 1 (by decide) rfl rfl (by decide) wd_156 e_a3 rfl (fun t_a3 => ?_)
  refine jB C [(.aload_n 2, 1, 0)] 13 [(0, .ref (b + v0)), (1, .ref (b + v1)), (2, .ref (b + v2))] [.ref (b + v2), .ref (b + a3)] (by decide +kernel) rfl rfl ?_
  refine jcVN_V C 16 (rest := []) (ok_X9_copyFrom t_a3 t_v2 h) (by decide +kernel : decode cX0_begin 13 = .ok (.invokevirtual 54, 3)) rfl wn_785 wd_787 wp_64 wd_3 wd_788 ⟨rfl, rfl⟩ hd_X9_copyFrom ⟨Nat.le_of_ble_eq_true rfl, Nat.le_of_ble_eq_true rfl⟩ t_a3 kX9 (by decide) rfl rfl rfl (Nat.le_of_ble_eq_true rfl) ⟨Nat.zero_le _, Nat.zero_le _⟩ (fun S4 h => ?_)
  refine jB C [(.aload_n 0, 1, 0), (.iconst 0, 1, 0)] 18 [(0, .ref (b + v0)), (1, .ref (b + v1)), (2, .ref (b + v2))] [.int 0, .ref (b + v0)] (by decide +kernel) rfl rfl ?_
  refine jPutI C 21 (by decide +kernel : decode cX0_begin 18 = .ok (.putfield 57, 3)) rfl hE t_v0 kX0 6 (by decide) rfl rfl (by decide) rfl wd_161 rfl rfl rfl ?_
  refine jTopS (fun S5 e_S5 => ?_)
  have h := h S5 e_S5
  refine jB C [(.aload_n 0, 1, 0), (.iconst (-1), 1, (-1))] 23 [(0, .ref (b + v0)), (1, .ref (b + v1)), (2, .ref (b + v2))] [.int (-1), .ref (b + v0)] (by decide +kernel) rfl rfl ?_
  refine jPutI C 26 (by decide +kernel : decode cX0_begin 23 = .ok (.putfield 61, 3)) rfl hE t_v0 kX0 7 (by decide) rfl rfl (by decide) rfl wd_163 rfl rfl rfl ?_
  refine jTopS (fun S6 e_S6 => ?_)
  have h := h S6 e_S6
  exact jRetV C (by decide +kernel : decode cX0_begin 26 = .ok (.return_, 1)) (Nat.le_refl _) (Nat.le_refl _) ⟨rfl, h⟩
theorem ok_X0_begin {G : Gm} {v0 : Nat} {v1 : Nat} {v2 : Nat} {S : St} {Q : St → Prop}  (t_v0 : ok G 0 v0) (t_v1 : ok G 4 v1) (t_v2 : ok G 8 v2) (h : f_X0_begin G v0 v1 v2 Q S) : MT yX0_begin cX0_begin 3 none rm_X0_begin 0 0 (fun b => [.ref (b + v0), .ref (b + v1), .ref (b + v2)]) G S (QV (fun G1 S1 => G1 = G ∧ Q S1)) := MT.ofJ (by decide +kernel) (fun b => [(0, .ref (b + v0)), (1, .ref (b + v1)), (2, .ref (b + v2))]) (fun b => rfl) (fun b => Nat.le_of_ble_eq_true rfl) (fun l b D cy p e s m below meth c C hE hn => j_X0_begin C hE t_v0 t_v1 t_v2 h)
theorem hd_X0_begin : yX0_begin.cls ≠ "java/lang/invoke/MethodHandle" ∧ yX0_begin.cls ≠ "java/lang/invoke/VarHandle" ∧ (parseMethodDescriptor yX0_begin.desc).map (fun d => d.parameters.length) = some 2 := by decide +kernel
abbrev rm_X5_init : Room := { frames := 1, cells := 7, slots := 62, locals := 30 }
set_option maxHeartbeats 4000000 in
set_option maxRecDepth 100000 in
theorem j_X5_init {p : Program} {l : Launch} {e : Env} {s : State} {m : MethodId} {args : Array Value} {below : List Frame} {meth : Method} {c : Code} {b : Nat} {D : va_G} {cy : Nat → ClassId} {G : Gm} {G0 : Gm} {v0 : Nat} {S : St} {Q : Gm → St → Prop} (C : CX p s m args meth c b D cy cX5_init RX5 1 none) (hI : s.heap.size + 0 ≤ b + G0.2.2) (hin : meth.name = yX5_init.name) (hE : s.heap.size + 0 ≤ b + G.2.2) (hX : ext G0 G) (hN : G.2.2 = G0.2.2 + 0) (t_v0 : ok G 4 v0) (h : f_X5_init G v0 Q S) : J p l e rm_X5_init s m args below meth c b D cy 1 (MQ below (QV (fun G1 S1 => (ext G0 G1 ∧ G1.2.2 = G0.2.2 + 7) ∧ Q G1 S1) b D cy) args s 7 62 (fun q => b ≤ q)) 0 0 G S 0 [(0, .ref (b + v0))] [] := by
  unfold f_X5_init at h
  refine jB C [(.aload_n 0, 1, 0)] 1 [(0, .ref (b + v0))] [.ref (b + v0)] (by decide +kernel) rfl rfl ?_
  refine jObj C 4 (by decide +kernel : decode cX5_init 1 = .ok (.invokespecial 3, 3)) rfl wd_33 (Nat.le_of_ble_eq_true rfl) (Nat.le_of_ble_eq_true rfl) (Nat.le_of_ble_eq_true rfl) ?_
  refine jB C [(.aload_n 0, 1, 0), (.bipush 24, 2, 24)] 7 [(0, .ref (b + v0))] [.int 24, .ref (b + v0)] (by decide +kernel) rfl rfl ?_
  refine jNewI C 9 24 (by decide +kernel : decode cX5_init 7 = .ok (.newarray .int, 2)) rfl hE wa_I (by decide) (by decide) (by decide) (Nat.le_of_ble_eq_true rfl) (Nat.le_of_ble_eq_true rfl) (fun a1 G2 S3 e_a1 e_G2 e_S3 => ?_)
  have h := h a1 e_a1 G2 e_G2 S3 e_S3
  have X4 : ext G G2 := by rw [e_G2]; exact ext.new
  have N5 : G2.2.2 = G.2.2 + 1 := by rw [e_G2]; rfl
  have X7 := hX.tr X4
  have N8 : G2.2.2 = G0.2.2 + 1 := by omega
  have E6 : s.heap.size + 1 ≤ b + G2.2.2 := by omega
  have t_a1 : ok G2 11 a1 := by rw [e_G2, e_a1]; exact ok_new
  refine jPutRF C 12 (by decide +kernel : decode cX5_init 9 = .ok (.putfield 9, 3)) rfl E6 (X4.ok t_v0) kX5 1 (by decide) rfl rfl (by decide) rfl hin rfl wd_40 rfl rfl rfl (fun t ht => by cases ht; exact t_a1) ?_
  refine jTopS (fun S9 e_S9 => ?_)
  have h := h S9 e_S9
  refine jB C [(.aload_n 0, 1, 0), (.bipush 6, 2, 6)] 15 [(0, .ref (b + v0))] [.int 6, .ref (b + v0)] (by decide +kernel) rfl rfl ?_
  refine jNewI C 17 6 (by decide +kernel : decode cX5_init 15 = .ok (.newarray .int, 2)) rfl E6 wa_I (by decide) (by decide) (by decide) (Nat.le_of_ble_eq_true rfl) (Nat.le_of_ble_eq_true rfl) (fun a10 G11 S12 e_a10 e_G11 e_S12 => ?_)
  have h := h a10 e_a10 G11 e_G11 S12 e_S12
  have X13 : ext G2 G11 := by rw [e_G11]; exact ext.new
  have N14 : G11.2.2 = G2.2.2 + 1 := by rw [e_G11]; rfl
  have X16 := X7.tr X13
  have N17 : G11.2.2 = G0.2.2 + 2 := by omega
  have E15 : s.heap.size + 2 ≤ b + G11.2.2 := by omega
  have t_a10 : ok G11 11 a10 := by rw [e_G11, e_a10]; exact ok_new
  refine jPutRF C 20 (by decide +kernel : decode cX5_init 17 = .ok (.putfield 15, 3)) rfl E15 (X13.ok (X4.ok t_v0)) kX5 2 (by decide) rfl rfl (by decide) rfl hin rfl wd_42 rfl rfl rfl (fun t ht => by cases ht; exact t_a10) ?_
  refine jTopS (fun S18 e_S18 => ?_)
  have h := h S18 e_S18
  refine jB C [(.aload_n 0, 1, 0), (.bipush 6, 2, 6)] 23 [(0, .ref (b + v0))] [.int 6, .ref (b + v0)] (by decide +kernel) rfl rfl ?_
  refine jNewI C 25 6 (by decide +kernel : decode cX5_init 23 = .ok (.newarray .int, 2)) rfl E15 wa_I (by decide) (by decide) (by decide) (Nat.le_of_ble_eq_true rfl) (Nat.le_of_ble_eq_true rfl) (fun a19 G20 S21 e_a19 e_G20 e_S21 => ?_)
  have h := h a19 e_a19 G20 e_G20 S21 e_S21
  have X22 : ext G11 G20 := by rw [e_G20]; exact ext.new
  have N23 : G20.2.2 = G11.2.2 + 1 := by rw [e_G20]; rfl
  have X25 := X16.tr X22
  have N26 : G20.2.2 = G0.2.2 + 3 := by omega
  have E24 : s.heap.size + 3 ≤ b + G20.2.2 := by omega
  have t_a19 : ok G20 11 a19 := by rw [e_G20, e_a19]; exact ok_new
  refine jPutRF C 28 (by decide +kernel : decode cX5_init 25 = .ok (.putfield 18, 3)) rfl E24 (X22.ok (X13.ok (X4.ok t_v0))) kX5 3 (by decide) rfl rfl (by decide) rfl hin rfl wd_44 rfl rfl rfl (fun t ht => by cases ht; exact t_a19) ?_
  refine jTopS (fun S27 e_S27 => ?_)
  have h := h S27 e_S27
  refine jB C [(.aload_n 0, 1, 0), (.iconst 4, 1, 4)] 30 [(0, .ref (b + v0))] [.int 4, .ref (b + v0)] (by decide +kernel) rfl rfl ?_
  refine jNewI C 32 4 (by decide +kernel : decode cX5_init 30 = .ok (.newarray .int, 2)) rfl E24 wa_I (by decide) (by decide) (by decide) (Nat.le_of_ble_eq_true rfl) (Nat.le_of_ble_eq_true rfl) (fun a28 G29 S30 e_a28 e_G29 e_S30 => ?_)
  have h := h a28 e_a28 G29 e_G29 S30 e_S30
  have X31 : ext G20 G29 := by rw [e_G29]; exact ext.new
  have N32 : G29.2.2 = G20.2.2 + 1 := by rw [e_G29]; rfl
  have X34 := X25.tr X31
  have N35 : G29.2.2 = G0.2.2 + 4 := by omega
  have E33 : s.heap.size + 4 ≤ b + G29.2.2 := by omega
  have t_a28 : ok G29 11 a28 := by rw [e_G29, e_a28]; exact ok_new
  refine jPutRF C 35 (by decide +kernel : decode cX5_init 32 = .ok (.putfield 21, 3)) rfl E33 (X31.ok (X22.ok (X13.ok (X4.ok t_v0)))) kX5 4 (by decide) rfl rfl (by decide) rfl hin rfl wd_45 rfl rfl rfl (fun t ht => by cases ht; exact t_a28) ?_
  refine jTopS (fun S36 e_S36 => ?_)
  have h := h S36 e_S36
  refine jB C [(.aload_n 0, 1, 0), (.bipush 8, 2, 8)] 38 [(0, .ref (b + v0))] [.int 8, .ref (b + v0)] (by decide +kernel) rfl rfl ?_
  refine jNewI C 40 8 (by decide +kernel : decode cX5_init 38 = .ok (.newarray .int, 2)) rfl E33 wa_I (by decide) (by decide) (by decide) (Nat.le_of_ble_eq_true rfl) (Nat.le_of_ble_eq_true rfl) (fun a37 G38 S39 e_a37 e_G38 e_S39 => ?_)
  have h := h a37 e_a37 G38 e_G38 S39 e_S39
  have X40 : ext G29 G38 := by rw [e_G38]; exact ext.new
  have N41 : G38.2.2 = G29.2.2 + 1 := by rw [e_G38]; rfl
  have X43 := X34.tr X40
  have N44 : G38.2.2 = G0.2.2 + 5 := by omega
  have E42 : s.heap.size + 5 ≤ b + G38.2.2 := by omega
  have t_a37 : ok G38 11 a37 := by rw [e_G38, e_a37]; exact ok_new
  refine jPutRF C 43 (by decide +kernel : decode cX5_init 40 = .ok (.putfield 24, 3)) rfl E42 (X40.ok (X31.ok (X22.ok (X13.ok (X4.ok t_v0))))) kX5 6 (by decide) rfl rfl (by decide) rfl hin rfl wd_49 rfl rfl rfl (fun t ht => by cases ht; exact t_a37) ?_
  refine jTopS (fun S45 e_S45 => ?_)
  have h := h S45 e_S45
  refine jB C [(.aload_n 0, 1, 0), (.bipush 8, 2, 8)] 46 [(0, .ref (b + v0))] [.int 8, .ref (b + v0)] (by decide +kernel) rfl rfl ?_
  refine jNewI C 48 8 (by decide +kernel : decode cX5_init 46 = .ok (.newarray .int, 2)) rfl E42 wa_I (by decide) (by decide) (by decide) (Nat.le_of_ble_eq_true rfl) (Nat.le_of_ble_eq_true rfl) (fun a46 G47 S48 e_a46 e_G47 e_S48 => ?_)
  have h := h a46 e_a46 G47 e_G47 S48 e_S48
  have X49 : ext G38 G47 := by rw [e_G47]; exact ext.new
  have N50 : G47.2.2 = G38.2.2 + 1 := by rw [e_G47]; rfl
  have X52 := X43.tr X49
  have N53 : G47.2.2 = G0.2.2 + 6 := by omega
  have E51 : s.heap.size + 6 ≤ b + G47.2.2 := by omega
  have t_a46 : ok G47 11 a46 := by rw [e_G47, e_a46]; exact ok_new
  refine jPutRF C 51 (by decide +kernel : decode cX5_init 48 = .ok (.putfield 27, 3)) rfl E51 (X49.ok (X40.ok (X31.ok (X22.ok (X13.ok (X4.ok t_v0)))))) kX5 7 (by decide) rfl rfl (by decide) rfl hin rfl wd_51 rfl rfl rfl (fun t ht => by cases ht; exact t_a46) ?_
  refine jTopS (fun S54 e_S54 => ?_)
  have h := h S54 e_S54
  refine jB C [(.aload_n 0, 1, 0), (.bipush 6, 2, 6)] 54 [(0, .ref (b + v0))] [.int 6, .ref (b + v0)] (by decide +kernel) rfl rfl ?_
  refine jNewT C 57 6 (by decide +kernel : decode cX5_init 54 = .ok (.anewarray 30, 3)) rfl E51 wd_34 (by decide) (by decide) (by decide) (Nat.le_of_ble_eq_true rfl) (Nat.le_of_ble_eq_true rfl) (fun a55 G56 S57 e_a55 e_G56 e_S57 => ?_)
  have h := h a55 e_a55 G56 e_G56 S57 e_S57
  have X58 : ext G47 G56 := by rw [e_G56]; exact ext.new
  have N59 : G56.2.2 = G47.2.2 + 1 := by rw [e_G56]; rfl
  have X61 := X52.tr X58
  have N62 : G56.2.2 = G0.2.2 + 7 := by omega
  have E60 : s.heap.size + 7 ≤ b + G56.2.2 := by omega
  have t_a55 : ok G56 15 a55 := by rw [e_G56, e_a55]; exact ok_new
  refine jPutRF C 60 (by decide +kernel : decode cX5_init 57 = .ok (.putfield 32, 3)) rfl E60 (X58.ok (X49.ok (X40.ok (X31.ok (X22.ok (X13.ok (X4.ok t_v0))))))) kX5 9 (by decide) rfl rfl (by decide) rfl hin rfl wd_55 rfl rfl rfl (fun t ht => by cases ht; exact t_a55) ?_
  refine jTopS (fun S63 e_S63 => ?_)
  have h := h S63 e_S63
  refine jB C [(.aload_n 0, 1, 0), (.iconst (-1), 1, (-1))] 62 [(0, .ref (b + v0))] [.int (-1), .ref (b + v0)] (by decide +kernel) rfl rfl ?_
  refine jPutI C 65 (by decide +kernel : decode cX5_init 62 = .ok (.putfield 36, 3)) rfl E60 (X58.ok (X49.ok (X40.ok (X31.ok (X22.ok (X13.ok (X4.ok t_v0))))))) kX5 10 (by decide) rfl rfl (by decide) rfl wd_56 rfl rfl rfl ?_
  refine jTopS (fun S64 e_S64 => ?_)
  have h := h S64 e_S64
  refine jB C [(.aload_n 0, 1, 0)] 66 [(0, .ref (b + v0))] [.ref (b + v0)] (by decide +kernel) rfl rfl ?_
  obtain ⟨a65, e_a65, h⟩ := h
  refine jGetR C 69 (by decide +kernel : decode cX5_init 66 = .ok (.getfield 21, 3)) rfl (X58.ok (X49.ok (X40.ok (X31.ok (X22.ok (X13.ok (X4.ok t_v0))))))) kX5 4 (by decide) rfl rfl (by decide) wd_45 e_a65 rfl (fun t_a65 => ?_)
  refine jB C [(.iconst 1, 1, 1), (.iconst 1, 1, 1)] 71 [(0, .ref (b + v0))] [.int 1, .int 1, .ref (b + a65)] (by decide +kernel) rfl rfl ?_
  obtain ⟨y66, h⟩ := h
  refine jIast C 72 (by decide +kernel : decode cX5_init 71 = .ok (.iastore, 1)) rfl E60 t_a65 y66 ?_
  refine jTopS (fun S67 e_S67 => ?_)
  have h := h S67 e_S67
  exact jRetV C (by decide +kernel : decode cX5_init 72 = .ok (.return_, 1)) (Nat.le_of_ble_eq_true rfl) (Nat.le_of_ble_eq_true rfl) ⟨⟨X61, N62⟩, h⟩
theorem ok_X5_init {G : Gm} {v0 : Nat} {S : St} {Q : Gm → St → Prop}  (t_v0 : ok G 4 v0) (h : f_X5_init G v0 Q S) : MT yX5_init cX5_init 1 none rm_X5_init 7 62 (fun b => [.ref (b + v0)]) G S (QV (fun G1 S1 => (ext G G1 ∧ G1.2.2 = G.2.2 + 7) ∧ Q G1 S1)) := MT.ofJ (by decide +kernel) (fun b => [(0, .ref (b + v0))]) (fun b => rfl) (fun b => Nat.le_of_ble_eq_true rfl) (fun l b D cy p e s m below meth c C hE hn => j_X5_init C hE hn hE ext.rf rfl t_v0 h)
theorem hd_X5_init : yX5_init.cls ≠ "java/lang/invoke/MethodHandle" ∧ yX5_init.cls ≠ "java/lang/invoke/VarHandle" ∧ (parseMethodDescriptor yX5_init.desc).map (fun d => d.parameters.length) = some 0 := by decide +kernel
abbrev rm_X9_init : Room := { frames := 1, cells := 1, slots := 512, locals := 30 }
set_option maxHeartbeats 4000000 in
set_option maxRecDepth 100000 in
theorem j_X9_init {p : Program} {l : Launch} {e : Env} {s : State} {m : MethodId} {args : Array Value} {below : List Frame} {meth : Method} {c : Code} {b : Nat} {D : va_G} {cy : Nat → ClassId} {G : Gm} {G0 : Gm} {v0 : Nat} {S : St} {Q : Gm → St → Prop} (C : CX p s m args meth c b D cy cX9_init RX9 1 none) (hI : s.heap.size + 0 ≤ b + G0.2.2) (hin : meth.name = yX9_init.name) (hE : s.heap.size + 0 ≤ b + G.2.2) (hX : ext G0 G) (hN : G.2.2 = G0.2.2 + 0) (t_v0 : ok G 8 v0) (h : f_X9_init G v0 Q S) : J p l e rm_X9_init s m args below meth c b D cy 1 (MQ below (QV (fun G1 S1 => (ext G0 G1 ∧ G1.2.2 = G0.2.2 + 1) ∧ Q G1 S1) b D cy) args s 1 512 (fun q => b ≤ q)) 0 0 G S 0 [(0, .ref (b + v0))] [] := by
  unfold f_X9_init at h
  refine jB C [(.aload_n 0, 1, 0)] 1 [(0, .ref (b + v0))] [.ref (b + v0)] (by decide +kernel) rfl rfl ?_
  refine jObj C 4 (by decide +kernel : decode cX9_init 1 = .ok (.invokespecial 5, 3)) rfl wd_88 (Nat.le_of_ble_eq_true rfl) (Nat.le_of_ble_eq_true rfl) (Nat.le_of_ble_eq_true rfl) ?_
  refine jB C [(.aload_n 0, 1, 0), (.sipush 512, 3, 512)] 8 [(0, .ref (b + v0))] [.int 512, .ref (b + v0)] (by decide +kernel) rfl rfl ?_
  refine jNewI C 10 512 (by decide +kernel : decode cX9_init 8 = .ok (.newarray .int, 2)) rfl hE wa_I (by decide) (by decide) (by decide) (Nat.le_of_ble_eq_true rfl) (Nat.le_of_ble_eq_true rfl) (fun a1 G2 S3 e_a1 e_G2 e_S3 => ?_)
  have h := h a1 e_a1 G2 e_G2 S3 e_S3
  have X4 : ext G G2 := by rw [e_G2]; exact ext.new
  have N5 : G2.2.2 = G.2.2 + 1 := by rw [e_G2]; rfl
  have X7 := hX.tr X4
  have N8 : G2.2.2 = G0.2.2 + 1 := by omega
  have E6 : s.heap.size + 1 ≤ b + G2.2.2 := by omega
  have t_a1 : ok G2 11 a1 := by rw [e_G2, e_a1]; exact ok_new
  refine jPutRF C 13 (by decide +kernel : decode cX9_init 10 = .ok (.putfield 11, 3)) rfl E6 (X4.ok t_v0) kX9 0 (by decide) rfl rfl (by decide) rfl hin rfl wd_89 rfl rfl rfl (fun t ht => by cases ht; exact t_a1) ?_
  refine jTopS (fun S9 e_S9 => ?_)
  have h := h S9 e_S9
  exact jRetV C (by decide +kernel : decode cX9_init 13 = .ok (.return_, 1)) (Nat.le_of_ble_eq_true rfl) (Nat.le_of_ble_eq_true rfl) ⟨⟨X7, N8⟩, h⟩
theorem ok_X9_init {G : Gm} {v0 : Nat} {S : St} {Q : Gm → St → Prop}  (t_v0 : ok G 8 v0) (h : f_X9_init G v0 Q S) : MT yX9_init cX9_init 1 none rm_X9_init 1 512 (fun b => [.ref (b + v0)]) G S (QV (fun G1 S1 => (ext G G1 ∧ G1.2.2 = G.2.2 + 1) ∧ Q G1 S1)) := MT.ofJ (by decide +kernel) (fun b => [(0, .ref (b + v0))]) (fun b => rfl) (fun b => Nat.le_of_ble_eq_true rfl) (fun l b D cy p e s m below meth c C hE hn => j_X9_init C hE hn hE ext.rf rfl t_v0 h)
theorem hd_X9_init : yX9_init.cls ≠ "java/lang/invoke/MethodHandle" ∧ yX9_init.cls ≠ "java/lang/invoke/VarHandle" ∧ (parseMethodDescriptor yX9_init.desc).map (fun d => d.parameters.length) = some 0 := by decide +kernel
abbrev rm_X7_init : Room := { frames := 1, cells := 1, slots := 32, locals := 30 }
set_option maxHeartbeats 4000000 in
set_option maxRecDepth 100000 in
theorem j_X7_init {p : Program} {l : Launch} {e : Env} {s : State} {m : MethodId} {args : Array Value} {below : List Frame} {meth : Method} {c : Code} {b : Nat} {D : va_G} {cy : Nat → ClassId} {G : Gm} {G0 : Gm} {v0 : Nat} {S : St} {Q : Gm → St → Prop} (C : CX p s m args meth c b D cy cX7_init RX7 1 none) (hI : s.heap.size + 0 ≤ b + G0.2.2) (hin : meth.name = yX7_init.name) (hE : s.heap.size + 0 ≤ b + G.2.2) (hX : ext G0 G) (hN : G.2.2 = G0.2.2 + 0) (t_v0 : ok G 6 v0) (h : f_X7_init G v0 Q S) : J p l e rm_X7_init s m args below meth c b D cy 1 (MQ below (QV (fun G1 S1 => (ext G0 G1 ∧ G1.2.2 = G0.2.2 + 1) ∧ Q G1 S1) b D cy) args s 1 32 (fun q => b ≤ q)) 0 0 G S 0 [(0, .ref (b + v0))] [] := by
  unfold f_X7_init at h
  refine jB C [(.aload_n 0, 1, 0)] 1 [(0, .ref (b + v0))] [.ref (b + v0)] (by decide +kernel) rfl rfl ?_
  refine jObj C 4 (by decide +kernel : decode cX7_init 1 = .ok (.invokespecial 3, 3)) rfl wd_111 (Nat.le_of_ble_eq_true rfl) (Nat.le_of_ble_eq_true rfl) (Nat.le_of_ble_eq_true rfl) ?_
  refine jB C [(.aload_n 0, 1, 0), (.bipush 32, 2, 32)] 7 [(0, .ref (b + v0))] [.int 32, .ref (b + v0)] (by decide +kernel) rfl rfl ?_
  refine jNewL C 9 32 (by decide +kernel : decode cX7_init 7 = .ok (.newarray .long, 2)) rfl hE wa_J (by decide) (by decide) (by decide) (Nat.le_of_ble_eq_true rfl) (Nat.le_of_ble_eq_true rfl) (fun a1 G2 S3 e_a1 e_G2 e_S3 => ?_)
  have h := h a1 e_a1 G2 e_G2 S3 e_S3
  have X4 : ext G G2 := by rw [e_G2]; exact ext.new
  have N5 : G2.2.2 = G.2.2 + 1 := by rw [e_G2]; rfl
  have X7 := hX.tr X4
  have N8 : G2.2.2 = G0.2.2 + 1 := by omega
  have E6 : s.heap.size + 1 ≤ b + G2.2.2 := by omega
  have t_a1 : ok G2 12 a1 := by rw [e_G2, e_a1]; exact ok_new
  refine jPutRF C 12 (by decide +kernel : decode cX7_init 9 = .ok (.putfield 11, 3)) rfl E6 (X4.ok t_v0) kX7 0 (by decide) rfl rfl (by decide) rfl hin rfl wd_112 rfl rfl rfl (fun t ht => by cases ht; exact t_a1) ?_
  refine jTopS (fun S9 e_S9 => ?_)
  have h := h S9 e_S9
  exact jRetV C (by decide +kernel : decode cX7_init 12 = .ok (.return_, 1)) (Nat.le_of_ble_eq_true rfl) (Nat.le_of_ble_eq_true rfl) ⟨⟨X7, N8⟩, h⟩
theorem ok_X7_init {G : Gm} {v0 : Nat} {S : St} {Q : Gm → St → Prop}  (t_v0 : ok G 6 v0) (h : f_X7_init G v0 Q S) : MT yX7_init cX7_init 1 none rm_X7_init 1 32 (fun b => [.ref (b + v0)]) G S (QV (fun G1 S1 => (ext G G1 ∧ G1.2.2 = G.2.2 + 1) ∧ Q G1 S1)) := MT.ofJ (by decide +kernel) (fun b => [(0, .ref (b + v0))]) (fun b => rfl) (fun b => Nat.le_of_ble_eq_true rfl) (fun l b D cy p e s m below meth c C hE hn => j_X7_init C hE hn hE ext.rf rfl t_v0 h)
theorem hd_X7_init : yX7_init.cls ≠ "java/lang/invoke/MethodHandle" ∧ yX7_init.cls ≠ "java/lang/invoke/VarHandle" ∧ (parseMethodDescriptor yX7_init.desc).map (fun d => d.parameters.length) = some 0 := by decide +kernel
abbrev rm_X2_init : Room := { frames := 2, cells := 3, slots := 42, locals := 50 }
set_option maxHeartbeats 4000000 in
set_option maxRecDepth 100000 in
theorem j_X2_init {p : Program} {l : Launch} {e : Env} {s : State} {m : MethodId} {args : Array Value} {below : List Frame} {meth : Method} {c : Code} {b : Nat} {D : va_G} {cy : Nat → ClassId} {G : Gm} {G0 : Gm} {v0 : Nat} {S : St} {Q : Gm → St → Prop} (C : CX p s m args meth c b D cy cX2_init RX2 1 none) (hI : s.heap.size + 0 ≤ b + G0.2.2) (hin : meth.name = yX2_init.name) (hE : s.heap.size + 0 ≤ b + G.2.2) (hX : ext G0 G) (hN : G.2.2 = G0.2.2 + 0) (t_v0 : ok G 2 v0) (h : f_X2_init G v0 Q S) : J p l e rm_X2_init s m args below meth c b D cy 1 (MQ below (QV (fun G1 S1 => (ext G0 G1 ∧ G1.2.2 = G0.2.2 + 3) ∧ Q G1 S1) b D cy) args s 3 42 (fun q => b ≤ q)) 0 0 G S 0 [(0, .ref (b + v0))] [] := by
  unfold f_X2_init at h
  refine jB C [(.aload_n 0, 1, 0)] 1 [(0, .ref (b + v0))] [.ref (b + v0)] (by decide +kernel) rfl rfl ?_
  refine jObj C 4 (by decide +kernel : decode cX2_init 1 = .ok (.invokespecial 3, 3)) rfl wd_105 (Nat.le_of_ble_eq_true rfl) (Nat.le_of_ble_eq_true rfl) (Nat.le_of_ble_eq_true rfl) ?_
  refine jB C [(.aload_n 0, 1, 0), (.bipush 9, 2, 9)] 7 [(0, .ref (b + v0))] [.int 9, .ref (b + v0)] (by decide +kernel) rfl rfl ?_
  refine jNewI C 9 9 (by decide +kernel : decode cX2_init 7 = .ok (.newarray .int, 2)) rfl hE wa_I (by decide) (by decide) (by decide) (Nat.le_of_ble_eq_true rfl) (Nat.le_of_ble_eq_true rfl) (fun a1 G2 S3 e_a1 e_G2 e_S3 => ?_)
  have h := h a1 e_a1 G2 e_G2 S3 e_S3
  have X4 : ext G G2 := by rw [e_G2]; exact ext.new
  have N5 : G2.2.2 = G.2.2 + 1 := by rw [e_G2]; rfl
  have X7 := hX.tr X4
  have N8 : G2.2.2 = G0.2.2 + 1 := by omega
  have E6 : s.heap.size + 1 ≤ b + G2.2.2 := by omega
  have t_a1 : ok G2 11 a1 := by rw [e_G2, e_a1]; exact ok_new
  refine jPutRF C 12 (by decide +kernel : decode cX2_init 9 = .ok (.putfield 9, 3)) rfl E6 (X4.ok t_v0) kX2 0 (by decide) rfl rfl (by decide) rfl hin rfl wd_117 rfl rfl rfl (fun t ht => by cases ht; exact t_a1) ?_
  refine jTopS (fun S9 e_S9 => ?_)
  have h := h S9 e_S9
  refine jB C [(.aload_n 0, 1, 0)] 13 [(0, .ref (b + v0))] [.ref (b + v0)] (by decide +kernel) rfl rfl ?_
  refine jNew C 16 (by decide +kernel : decode cX2_init 13 = .ok (.new 15, 3)) rfl E6 kX7 (by decide) dfX7 wd_106 wd_107 wd_5 (Nat.le_of_ble_eq_true rfl) (Nat.le_of_ble_eq_true rfl) (fun a10 G11 S12 e_a10 e_G11 e_S12 => ?_)
  have h := h a10 e_a10 G11 e_G11 S12 e_S12
  have X13 : ext G2 G11 := by rw [e_G11]; exact ext.new
  have N14 : G11.2.2 = G2.2.2 + 1 := by rw [e_G11]; rfl
  have X16 := X7.tr X13
  have N17 : G11.2.2 = G0.2.2 + 2 := by omega
  have E15 : s.heap.size + 2 ≤ b + G11.2.2 := by omega
  have t_a10 : ok G11 6 a10 := by rw [e_G11, e_a10]; exact ok_new
  refine jB C [(.dup, 1, 0)] 17 [(0, .ref (b + v0))] [.ref (b + a10), .ref (b + a10), .ref (b + v0)] (by decide +kernel) rfl rfl ?_
  refine jCallIN_V C 20 (rest := [.ref (b + a10), .ref (b + v0)]) (ok_X7_init t_a10 h) (by decide +kernel : decode cX2_init 17 = .ok (.invokespecial 17, 3)) rfl wn_108 wd_109 rfl wd_5 wd_110 ⟨rfl, rfl⟩ hd_X7_init ⟨Nat.le_of_ble_eq_true rfl, Nat.le_of_ble_eq_true rfl⟩ rfl rfl rfl (Nat.le_of_ble_eq_true rfl) ⟨Nat.le_of_ble_eq_true rfl, Nat.le_of_ble_eq_true rfl⟩ (fun G18 S19 h => ?_)
  obtain ⟨⟨X21, N22⟩, h⟩ := h
  have X23 := X21
  have N24 : G18.2.2 = G11.2.2 + 1 := N22
  have X26 := X16.tr X23
  have N27 : G18.2.2 = G0.2.2 + 3 := by omega
  have E25 : s.heap.size + 3 ≤ b + G18.2.2 := by omega
  refine jPutRF C 23 (by decide +kernel : decode cX2_init 20 = .ok (.putfield 18, 3)) rfl E25 (X23.ok (X13.ok (X4.ok t_v0))) kX2 1 (by decide) rfl rfl (by decide) rfl hin rfl wd_118 rfl rfl rfl (fun t ht => by cases ht; exact (X23.ok t_a10)) ?_
  refine jTopS (fun S28 e_S28 => ?_)
  have h := h S28 e_S28
  exact jRetV C (by decide +kernel : decode cX2_init 23 = .ok (.return_, 1)) (Nat.le_of_ble_eq_true rfl) (Nat.le_of_ble_eq_true rfl) ⟨⟨X26, N27⟩, h⟩
theorem ok_X2_init {G : Gm} {v0 : Nat} {S : St} {Q : Gm → St → Prop}  (t_v0 : ok G 2 v0) (h : f_X2_init G v0 Q S) : MT yX2_init cX2_init 1 none rm_X2_init 3 42 (fun b => [.ref (b + v0)]) G S (QV (fun G1 S1 => (ext G G1 ∧ G1.2.2 = G.2.2 + 3) ∧ Q G1 S1)) := MT.ofJ (by decide +kernel) (fun b => [(0, .ref (b + v0))]) (fun b => rfl) (fun b => Nat.le_of_ble_eq_true rfl) (fun l b D cy p e s m below meth c C hE hn => j_X2_init C hE hn hE ext.rf rfl t_v0 h)
theorem hd_X2_init : yX2_init.cls ≠ "java/lang/invoke/MethodHandle" ∧ yX2_init.cls ≠ "java/lang/invoke/VarHandle" ∧ (parseMethodDescriptor yX2_init.desc).map (fun d => d.parameters.length) = some 0 := by decide +kernel
abbrev rm_X1_init : Room := { frames := 3, cells := 5, slots := 68, locals := 70 }
set_option maxHeartbeats 4000000 in
set_option maxRecDepth 100000 in
theorem j_X1_init {p : Program} {l : Launch} {e : Env} {s : State} {m : MethodId} {args : Array Value} {below : List Frame} {meth : Method} {c : Code} {b : Nat} {D : va_G} {cy : Nat → ClassId} {G : Gm} {G0 : Gm} {v0 : Nat} {S : St} {Q : Gm → St → Prop} (C : CX p s m args meth c b D cy cX1_init RX1 1 none) (hI : s.heap.size + 0 ≤ b + G0.2.2) (hin : meth.name = yX1_init.name) (hE : s.heap.size + 0 ≤ b + G.2.2) (hX : ext G0 G) (hN : G.2.2 = G0.2.2 + 0) (t_v0 : ok G 1 v0) (h : f_X1_init G v0 Q S) : J p l e rm_X1_init s m args below meth c b D cy 1 (MQ below (QV (fun G1 S1 => (ext G0 G1 ∧ G1.2.2 = G0.2.2 + 5) ∧ Q G1 S1) b D cy) args s 5 68 (fun q => b ≤ q)) 0 0 G S 0 [(0, .ref (b + v0))] [] := by
  unfold f_X1_init at h
  refine jB C [(.aload_n 0, 1, 0)] 1 [(0, .ref (b + v0))] [.ref (b + v0)] (by decide +kernel) rfl rfl ?_
  refine jObj C 4 (by decide +kernel : decode cX1_init 1 = .ok (.invokespecial 3, 3)) rfl wd_129 (Nat.le_of_ble_eq_true rfl) (Nat.le_of_ble_eq_true rfl) (Nat.le_of_ble_eq_true rfl) ?_
  refine jB C [(.aload_n 0, 1, 0)] 5 [(0, .ref (b + v0))] [.ref (b + v0)] (by decide +kernel) rfl rfl ?_
  refine jNew C 8 (by decide +kernel : decode cX1_init 5 = .ok (.new 9, 3)) rfl hE kX2 (by decide) dfX2 wd_130 wd_101 wd_4 (Nat.le_of_ble_eq_true rfl) (Nat.le_of_ble_eq_true rfl) (fun a1 G2 S3 e_a1 e_G2 e_S3 => ?_)
  have h := h a1 e_a1 G2 e_G2 S3 e_S3
  have X4 : ext G G2 := by rw [e_G2]; exact ext.new
  have N5 : G2.2.2 = G.2.2 + 1 := by rw [e_G2]; rfl
  have X7 := hX.tr X4
  have N8 : G2.2.2 = G0.2.2 + 1 := by omega
  have E6 : s.heap.size + 1 ≤ b + G2.2.2 := by omega
  have t_a1 : ok G2 2 a1 := by rw [e_G2, e_a1]; exact ok_new
  refine jB C [(.dup, 1, 0)] 9 [(0, .ref (b + v0))] [.ref (b + a1), .ref (b + a1), .ref (b + v0)] (by decide +kernel) rfl rfl ?_
  refine jCallIN_V C 12 (rest := [.ref (b + a1), .ref (b + v0)]) (ok_X2_init t_a1 h) (by decide +kernel : decode cX1_init 9 = .ok (.invokespecial 11, 3)) rfl wn_131 wd_103 rfl wd_4 wd_104 ⟨rfl, rfl⟩ hd_X2_init ⟨Nat.le_of_ble_eq_true rfl, Nat.le_of_ble_eq_true rfl⟩ rfl rfl rfl (Nat.le_of_ble_eq_true rfl) ⟨Nat.le_of_ble_eq_true rfl, Nat.le_of_ble_eq_true rfl⟩ (fun G9 S10 h => ?_)
  obtain ⟨⟨X12, N13⟩, h⟩ := h
  have X14 := X12
  have N15 : G9.2.2 = G2.2.2 + 3 := N13
  have X17 := X7.tr X14
  have N18 : G9.2.2 = G0.2.2 + 4 := by omega
  have E16 : s.heap.size + 4 ≤ b + G9.2.2 := by omega
  refine jPutRF C 15 (by decide +kernel : decode cX1_init 12 = .ok (.putfield 12, 3)) rfl E16 (X14.ok (X4.ok t_v0)) kX1 0 (by decide) rfl rfl (by decide) rfl hin rfl wd_132 rfl rfl rfl (fun t ht => by cases ht; exact (X14.ok t_a1)) ?_
  refine jTopS (fun S19 e_S19 => ?_)
  have h := h S19 e_S19
  refine jB C [(.aload_n 0, 1, 0), (.bipush 24, 2, 24)] 18 [(0, .ref (b + v0))] [.int 24, .ref (b + v0)] (by decide +kernel) rfl rfl ?_
  refine jNewI C 20 24 (by decide +kernel : decode cX1_init 18 = .ok (.newarray .int, 2)) rfl E16 wa_I (by decide) (by decide) (by decide) (Nat.le_of_ble_eq_true rfl) (Nat.le_of_ble_eq_true rfl) (fun a20 G21 S22 e_a20 e_G21 e_S22 => ?_)
  have h := h a20 e_a20 G21 e_G21 S22 e_S22
  have X23 : ext G9 G21 := by rw [e_G21]; exact ext.new
  have N24 : G21.2.2 = G9.2.2 + 1 := by rw [e_G21]; rfl
  have X26 := X17.tr X23
  have N27 : G21.2.2 = G0.2.2 + 5 := by omega
  have E25 : s.heap.size + 5 ≤ b + G21.2.2 := by omega
  have t_a20 : ok G21 11 a20 := by rw [e_G21, e_a20]; exact ok_new
  refine jPutRF C 23 (by decide +kernel : decode cX1_init 20 = .ok (.putfield 18, 3)) rfl E25 (X23.ok (X14.ok (X4.ok t_v0))) kX1 1 (by decide) rfl rfl (by decide) rfl hin rfl wd_133 rfl rfl rfl (fun t ht => by cases ht; exact t_a20) ?_
  refine jTopS (fun S28 e_S28 => ?_)
  have h := h S28 e_S28
  exact jRetV C (by decide +kernel : decode cX1_init 23 = .ok (.return_, 1)) (Nat.le_of_ble_eq_true rfl) (Nat.le_of_ble_eq_true rfl) ⟨⟨X26, N27⟩, h⟩
theorem ok_X1_init {G : Gm} {v0 : Nat} {S : St} {Q : Gm → St → Prop}  (t_v0 : ok G 1 v0) (h : f_X1_init G v0 Q S) : MT yX1_init cX1_init 1 none rm_X1_init 5 68 (fun b => [.ref (b + v0)]) G S (QV (fun G1 S1 => (ext G G1 ∧ G1.2.2 = G.2.2 + 5) ∧ Q G1 S1)) := MT.ofJ (by decide +kernel) (fun b => [(0, .ref (b + v0))]) (fun b => rfl) (fun b => Nat.le_of_ble_eq_true rfl) (fun l b D cy p e s m below meth c C hE hn => j_X1_init C hE hn hE ext.rf rfl t_v0 h)
theorem hd_X1_init : yX1_init.cls ≠ "java/lang/invoke/MethodHandle" ∧ yX1_init.cls ≠ "java/lang/invoke/VarHandle" ∧ (parseMethodDescriptor yX1_init.desc).map (fun d => d.parameters.length) = some 0 := by decide +kernel
abbrev rm_X0_init : Room := { frames := 4, cells := 23, slots := 757, locals := 90 }
set_option maxHeartbeats 4000000 in
set_option maxRecDepth 100000 in
theorem j_X0_init {p : Program} {l : Launch} {e : Env} {s : State} {m : MethodId} {args : Array Value} {below : List Frame} {meth : Method} {c : Code} {b : Nat} {D : va_G} {cy : Nat → ClassId} {G : Gm} {G0 : Gm} {v0 : Nat} {S : St} {Q : Gm → St → Prop} (C : CX p s m args meth c b D cy cX0_init RX0 1 none) (hI : s.heap.size + 0 ≤ b + G0.2.2) (hin : meth.name = yX0_init.name) (hE : s.heap.size + 0 ≤ b + G.2.2) (hX : ext G0 G) (hN : G.2.2 = G0.2.2 + 0) (t_v0 : ok G 0 v0) (h : f_X0_init G v0 Q S) : J p l e rm_X0_init s m args below meth c b D cy 1 (MQ below (QV (fun G1 S1 => (ext G0 G1 ∧ G1.2.2 = G0.2.2 + 23) ∧ Q G1 S1) b D cy) args s 23 757 (fun q => b ≤ q)) 0 0 G S 0 [(0, .ref (b + v0))] [] := by
  unfold f_X0_init at h
  refine jB C [(.aload_n 0, 1, 0)] 1 [(0, .ref (b + v0))] [.ref (b + v0)] (by decide +kernel) rfl rfl ?_
  refine jObj C 4 (by decide +kernel : decode cX0_init 1 = .ok (.invokespecial 3, 3)) rfl wd_144 (Nat.le_of_ble_eq_true rfl) (Nat.le_of_ble_eq_true rfl) (Nat.le_of_ble_eq_true rfl) ?_
  refine jB C [(.aload_n 0, 1, 0)] 5 [(0, .ref (b + v0))] [.ref (b + v0)] (by decide +kernel) rfl rfl ?_
  refine jNew C 8 (by decide +kernel : decode cX0_init 5 = .ok (.new 9, 3)) rfl hE kX5 (by decide) dfX5 wd_145 wd_29 wd_2 (Nat.le_of_ble_eq_true rfl) (Nat.le_of_ble_eq_true rfl) (fun a1 G2 S3 e_a1 e_G2 e_S3 => ?_)
  have h := h a1 e_a1 G2 e_G2 S3 e_S3
  have X4 : ext G G2 := by rw [e_G2]; exact ext.new
  have N5 : G2.2.2 = G.2.2 + 1 := by rw [e_G2]; rfl
  have X7 := hX.tr X4
  have N8 : G2.2.2 = G0.2.2 + 1 := by omega
  have E6 : s.heap.size + 1 ≤ b + G2.2.2 := by omega
  have t_a1 : ok G2 4 a1 := by rw [e_G2, e_a1]; exact ok_new
  refine jB C [(.dup, 1, 0)] 9 [(0, .ref (b + v0))] [.ref (b + a1), .ref (b + a1), .ref (b + v0)] (by decide +kernel) rfl rfl ?_
  refine jCallIN_V C 12 (rest := [.ref (b + a1), .ref (b + v0)]) (ok_X5_init t_a1 h) (by decide +kernel : decode cX0_init 9 = .ok (.invokespecial 11, 3)) rfl wn_146 wd_31 rfl wd_2 wd_32 ⟨rfl, rfl⟩ hd_X5_init ⟨Nat.le_of_ble_eq_true rfl, Nat.le_of_ble_eq_true rfl⟩ rfl rfl rfl (Nat.le_of_ble_eq_true rfl) ⟨Nat.le_of_ble_eq_true rfl, Nat.le_of_ble_eq_true rfl⟩ (fun G9 S10 h => ?_)
  obtain ⟨⟨X12, N13⟩, h⟩ := h
  have X14 := X12
  have N15 : G9.2.2 = G2.2.2 + 7 := N13
  have X17 := X7.tr X14
  have N18 : G9.2.2 = G0.2.2 + 8 := by omega
  have E16 : s.heap.size + 8 ≤ b + G9.2.2 := by omega
  refine jPutRF C 15 (by decide +kernel : decode cX0_init 12 = .ok (.putfield 12, 3)) rfl E16 (X14.ok (X4.ok t_v0)) kX0 0 (by decide) rfl rfl (by decide) rfl hin rfl wd_155 rfl rfl rfl (fun t ht => by cases ht; exact (X14.ok t_a1)) ?_
  refine jTopS (fun S19 e_S19 => ?_)
  have h := h S19 e_S19
  refine jB C [(.aload_n 0, 1, 0)] 16 [(0, .ref (b + v0))] [.ref (b + v0)] (by decide +kernel) rfl rfl ?_
  refine jNew C 19 (by decide +kernel : decode cX0_init 16 = .ok (.new 18, 3)) rfl E16 kX9 (by decide) dfX9 wd_147 wd_84 wd_3 (Nat.le_of_ble_eq_true rfl) (Nat.le_of_ble_eq_true rfl) (fun a20 G21 S22 e_a20 e_G21 e_S22 => ?_)
  have h := h a20 e_a20 G21 e_G21 S22 e_S22
  have X23 : ext G9 G21 := by rw [e_G21]; exact ext.new
  have N24 : G21.2.2 = G9.2.2 + 1 := by rw [e_G21]; rfl
  have X26 := X17.tr X23
  have N27 : G21.2.2 = G0.2.2 + 9 := by omega
  have E25 : s.heap.size + 9 ≤ b + G21.2.2 := by omega
  have t_a20 : ok G21 8 a20 := by rw [e_G21, e_a20]; exact ok_new
  refine jB C [(.dup, 1, 0)] 20 [(0, .ref (b + v0))] [.ref (b + a20), .ref (b + a20), .ref (b + v0)] (by decide +kernel) rfl rfl ?_
  refine jCallIN_V C 23 (rest := [.ref (b + a20), .ref (b + v0)]) (ok_X9_init t_a20 h) (by decide +kernel : decode cX0_init 20 = .ok (.invokespecial 20, 3)) rfl wn_148 wd_86 rfl wd_3 wd_87 ⟨rfl, rfl⟩ hd_X9_init ⟨Nat.le_of_ble_eq_true rfl, Nat.le_of_ble_eq_true rfl⟩ rfl rfl rfl (Nat.le_of_ble_eq_true rfl) ⟨Nat.le_of_ble_eq_true rfl, Nat.le_of_ble_eq_true rfl⟩ (fun G28 S29 h => ?_)
  obtain ⟨⟨X31, N32⟩, h⟩ := h
  have X33 := X31
  have N34 : G28.2.2 = G21.2.2 + 1 := N32
  have X36 := X26.tr X33
  have N37 : G28.2.2 = G0.2.2 + 10 := by omega
  have E35 : s.heap.size + 10 ≤ b + G28.2.2 := by omega
  refine jPutRF C 26 (by decide +kernel : decode cX0_init 23 = .ok (.putfield 21, 3)) rfl E35 (X33.ok (X23.ok (X14.ok (X4.ok t_v0)))) kX0 1 (by decide) rfl rfl (by decide) rfl hin rfl wd_156 rfl rfl rfl (fun t ht => by cases ht; exact (X33.ok t_a20)) ?_
  refine jTopS (fun S38 e_S38 => ?_)
  have h := h S38 e_S38
  refine jB C [(.aload_n 0, 1, 0)] 27 [(0, .ref (b + v0))] [.ref (b + v0)] (by decide +kernel) rfl rfl ?_
  refine jNew C 30 (by decide +kernel : decode cX0_init 27 = .ok (.new 25, 3)) rfl E35 kX2 (by decide) dfX2 wd_149 wd_101 wd_4 (Nat.le_of_ble_eq_true rfl) (Nat.le_of_ble_eq_true rfl) (fun a39 G40 S41 e_a39 e_G40 e_S41 => ?_)
  have h := h a39 e_a39 G40 e_G40 S41 e_S41
  have X42 : ext G28 G40 := by rw [e_G40]; exact ext.new
  have N43 : G40.2.2 = G28.2.2 + 1 := by rw [e_G40]; rfl
  have X45 := X36.tr X42
  have N46 : G40.2.2 = G0.2.2 + 11 := by omega
  have E44 : s.heap.size + 11 ≤ b + G40.2.2 := by omega
  have t_a39 : ok G40 2 a39 := by rw [e_G40, e_a39]; exact ok_new
  refine jB C [(.dup, 1, 0)] 31 [(0, .ref (b + v0))] [.ref (b + a39), .ref (b + a39), .ref (b + v0)] (by decide +kernel) rfl rfl ?_
  refine jCallIN_V C 34 (rest := [.ref (b + a39), .ref (b + v0)]) (ok_X2_init t_a39 h) (by decide +kernel : decode cX0_init 31 = .ok (.invokespecial 27, 3)) rfl wn_150 wd_103 rfl wd_4 wd_104 ⟨rfl, rfl⟩ hd_X2_init ⟨Nat.le_of_ble_eq_true rfl, Nat.le_of_ble_eq_true rfl⟩ rfl rfl rfl (Nat.le_of_ble_eq_true rfl) ⟨Nat.le_of_ble_eq_true rfl, Nat.le_of_ble_eq_true rfl⟩ (fun G47 S48 h => ?_)
  obtain ⟨⟨X50, N51⟩, h⟩ := h
  have X52 := X50
  have N53 : G47.2.2 = G40.2.2 + 3 := N51
  have X55 := X45.tr X52
  have N56 : G47.2.2 = G0.2.2 + 14 := by omega
  have E54 : s.heap.size + 14 ≤ b + G47.2.2 := by omega
  refine jPutRF C 37 (by decide +kernel : decode cX0_init 34 = .ok (.putfield 28, 3)) rfl E54 (X52.ok (X42.ok (X33.ok (X23.ok (X14.ok (X4.ok t_v0)))))) kX0 2 (by decide) rfl rfl (by decide) rfl hin rfl wd_157 rfl rfl rfl (fun t ht => by cases ht; exact (X52.ok t_a39)) ?_
  refine jTopS (fun S57 e_S57 => ?_)
  have h := h S57 e_S57
  refine jB C [(.aload_n 0, 1, 0)] 38 [(0, .ref (b + v0))] [.ref (b + v0)] (by decide +kernel) rfl rfl ?_
  refine jNew C 41 (by decide +kernel : decode cX0_init 38 = .ok (.new 32, 3)) rfl E54 kX1 (by decide) dfX1 wd_151 wd_125 wd_6 (Nat.le_of_ble_eq_true rfl) (Nat.le_of_ble_eq_true rfl) (fun a58 G59 S60 e_a58 e_G59 e_S60 => ?_)
  have h := h a58 e_a58 G59 e_G59 S60 e_S60
  have X61 : ext G47 G59 := by rw [e_G59]; exact ext.new
  have N62 : G59.2.2 = G47.2.2 + 1 := by rw [e_G59]; rfl
  have X64 := X55.tr X61
  have N65 : G59.2.2 = G0.2.2 + 15 := by omega
  have E63 : s.heap.size + 15 ≤ b + G59.2.2 := by omega
  have t_a58 : ok G59 1 a58 := by rw [e_G59, e_a58]; exact ok_new
  refine jB C [(.dup, 1, 0)] 42 [(0, .ref (b + v0))] [.ref (b + a58), .ref (b + a58), .ref (b + v0)] (by decide +kernel) rfl rfl ?_
  refine jCallIN_V C 45 (rest := [.ref (b + a58), .ref (b + v0)]) (ok_X1_init t_a58 h) (by decide +kernel : decode cX0_init 42 = .ok (.invokespecial 34, 3)) rfl wn_152 wd_127 rfl wd_6 wd_128 ⟨rfl, rfl⟩ hd_X1_init ⟨Nat.le_of_ble_eq_true rfl, Nat.le_of_ble_eq_true rfl⟩ rfl rfl rfl (Nat.le_of_ble_eq_true rfl) ⟨Nat.le_of_ble_eq_true rfl, Nat.le_of_ble_eq_true rfl⟩ (fun G66 S67 h => ?_)
  obtain ⟨⟨X69, N70⟩, h⟩ := h
  have X71 := X69
  have N72 : G66.2.2 = G59.2.2 + 5 := N70
  have X74 := X64.tr X71
  have N75 : G66.2.2 = G0.2.2 + 20 := by omega
  have E73 : s.heap.size + 20 ≤ b + G66.2.2 := by omega
  refine jPutRF C 48 (by decide +kernel : decode cX0_init 45 = .ok (.putfield 35, 3)) rfl E73 (X71.ok (X61.ok (X52.ok (X42.ok (X33.ok (X23.ok (X14.ok (X4.ok t_v0)))))))) kX0 3 (by decide) rfl rfl (by decide) rfl hin rfl wd_158 rfl rfl rfl (fun t ht => by cases ht; exact (X71.ok t_a58)) ?_
  refine jTopS (fun S76 e_S76 => ?_)
  have h := h S76 e_S76
  refine jB C [(.aload_n 0, 1, 0)] 49 [(0, .ref (b + v0))] [.ref (b + v0)] (by decide +kernel) rfl rfl ?_
  refine jNew C 52 (by decide +kernel : decode cX0_init 49 = .ok (.new 39, 3)) rfl E73 kX7 (by decide) dfX7 wd_153 wd_107 wd_5 (Nat.le_of_ble_eq_true rfl) (Nat.le_of_ble_eq_true rfl) (fun a77 G78 S79 e_a77 e_G78 e_S79 => ?_)
  have h := h a77 e_a77 G78 e_G78 S79 e_S79
  have X80 : ext G66 G78 := by rw [e_G78]; exact ext.new
  have N81 : G78.2.2 = G66.2.2 + 1 := by rw [e_G78]; rfl
  have X83 := X74.tr X80
  have N84 : G78.2.2 = G0.2.2 + 21 := by omega
  have E82 : s.heap.size + 21 ≤ b + G78.2.2 := by omega
  have t_a77 : ok G78 6 a77 := by rw [e_G78, e_a77]; exact ok_new
  refine jB C [(.dup, 1, 0)] 53 [(0, .ref (b + v0))] [.ref (b + a77), .ref (b + a77), .ref (b + v0)] (by decide +kernel) rfl rfl ?_
  refine jCallIN_V C 56 (rest := [.ref (b + a77), .ref (b + v0)]) (ok_X7_init t_a77 h) (by decide +kernel : decode cX0_init 53 = .ok (.invokespecial 41, 3)) rfl wn_154 wd_109 rfl wd_5 wd_110 ⟨rfl, rfl⟩ hd_X7_init ⟨Nat.le_of_ble_eq_true rfl, Nat.le_of_ble_eq_true rfl⟩ rfl rfl rfl (Nat.le_of_ble_eq_true rfl) ⟨Nat.le_of_ble_eq_true rfl, Nat.le_of_ble_eq_true rfl⟩ (fun G85 S86 h => ?_)
  obtain ⟨⟨X88, N89⟩, h⟩ := h
  have X90 := X88
  have N91 : G85.2.2 = G78.2.2 + 1 := N89
  have X93 := X83.tr X90
  have N94 : G85.2.2 = G0.2.2 + 22 := by omega
  have E92 : s.heap.size + 22 ≤ b + G85.2.2 := by omega
  refine jPutRF C 59 (by decide +kernel : decode cX0_init 56 = .ok (.putfield 42, 3)) rfl E92 (X90.ok (X80.ok (X71.ok (X61.ok (X52.ok (X42.ok (X33.ok (X23.ok (X14.ok (X4.ok t_v0)))))))))) kX0 4 (by decide) rfl rfl (by decide) rfl hin rfl wd_159 rfl rfl rfl (fun t ht => by cases ht; exact (X90.ok t_a77)) ?_
  refine jTopS (fun S95 e_S95 => ?_)
  have h := h S95 e_S95
  refine jB C [(.aload_n 0, 1, 0), (.bipush 22, 2, 22)] 62 [(0, .ref (b + v0))] [.int 22, .ref (b + v0)] (by decide +kernel) rfl rfl ?_
  refine jNewI C 64 22 (by decide +kernel : decode cX0_init 62 = .ok (.newarray .int, 2)) rfl E92 wa_I (by decide) (by decide) (by decide) (Nat.le_of_ble_eq_true rfl) (Nat.le_of_ble_eq_true rfl) (fun a96 G97 S98 e_a96 e_G97 e_S98 => ?_)
  have h := h a96 e_a96 G97 e_G97 S98 e_S98
  have X99 : ext G85 G97 := by rw [e_G97]; exact ext.new
  have N100 : G97.2.2 = G85.2.2 + 1 := by rw [e_G97]; rfl
  have X102 := X93.tr X99
  have N103 : G97.2.2 = G0.2.2 + 23 := by omega
  have E101 : s.heap.size + 23 ≤ b + G97.2.2 := by omega
  have t_a96 : ok G97 11 a96 := by rw [e_G97, e_a96]; exact ok_new
  refine jPutRF C 67 (by decide +kernel : decode cX0_init 64 = .ok (.putfield 46, 3)) rfl E101 (X99.ok (X90.ok (X80.ok (X71.ok (X61.ok (X52.ok (X42.ok (X33.ok (X23.ok (X14.ok (X4.ok t_v0))))))))))) kX0 5 (by decide) rfl rfl (by decide) rfl hin rfl wd_160 rfl rfl rfl (fun t ht => by cases ht; exact t_a96) ?_
  refine jTopS (fun S104 e_S104 => ?_)
  have h := h S104 e_S104
  exact jRetV C (by decide +kernel : decode cX0_init 67 = .ok (.return_, 1)) (Nat.le_of_ble_eq_true rfl) (Nat.le_of_ble_eq_true rfl) ⟨⟨X102, N103⟩, h⟩
theorem ok_X0_init {G : Gm} {v0 : Nat} {S : St} {Q : Gm → St → Prop}  (t_v0 : ok G 0 v0) (h : f_X0_init G v0 Q S) : MT yX0_init cX0_init 1 none rm_X0_init 23 757 (fun b => [.ref (b + v0)]) G S (QV (fun G1 S1 => (ext G G1 ∧ G1.2.2 = G.2.2 + 23) ∧ Q G1 S1)) := MT.ofJ (by decide +kernel) (fun b => [(0, .ref (b + v0))]) (fun b => rfl) (fun b => Nat.le_of_ble_eq_true rfl) (fun l b D cy p e s m below meth c C hE hn => j_X0_init C hE hn hE ext.rf rfl t_v0 h)
theorem hd_X0_init : yX0_init.cls ≠ "java/lang/invoke/MethodHandle" ∧ yX0_init.cls ≠ "java/lang/invoke/VarHandle" ∧ (parseMethodDescriptor yX0_init.desc).map (fun d => d.parameters.length) = some 0 := by decide +kernel
abbrev rm_X5_termOf : Room := { frames := 0, cells := 0, slots := 0, locals := 0 }
set_option maxHeartbeats 4000000 in
set_option maxRecDepth 100000 in
theorem j_X5_termOf {p : Program} {l : Launch} {e : Env} {s : State} {m : MethodId} {args : Array Value} {below : List Frame} {meth : Method} {c : Code} {b : Nat} {D : va_G} {cy : Nat → ClassId} {G : Gm} {v0 : Nat} {v1 : Int32} {S : St} {Q : Int32 → St → Prop} (C : CX p s m args meth c b D cy cX5_termOf RX5 2 (some .int)) (hE : s.heap.size + 0 ≤ b + G.2.2) (t_v0 : ok G 4 v0) (h : f_X5_termOf G v0 v1 Q S) : J p l e rm_X5_termOf s m args below meth c b D cy 2 (zI b D cy below args s G Q) 0 0 G S 0 [(0, .ref (b + v0)), (1, .int v1)] [] := by
  unfold f_X5_termOf at h
  refine jB C [(.iload_n 1, 1, 0)] 1 [(0, .ref (b + v0)), (1, .int v1)] [.int v1] (by decide +kernel) rfl rfl ?_
  refine jIf_lt C 4 18 (by decide +kernel : decode cX5_termOf 1 = .ok (.ifCond .lt 17, 3)) rfl rfl (fun c1 => ?_) (fun c1 => ?_)
  · have h := it1 h c1
    refine jB C [(.iconst 0, 1, 0)] 19 [(0, .ref (b + v0)), (1, .int v1)] [.int 0] (by decide +kernel) rfl rfl ?_
    exact jRetI C (by decide +kernel : decode cX5_termOf 19 = .ok (.ireturn, 1)) (Nat.le_refl _) (Nat.le_refl _) ⟨rfl, h⟩
  · have h := it2 h c1
    refine jB C [(.iload_n 1, 1, 0), (.iconst 4, 1, 4)] 6 [(0, .ref (b + v0)), (1, .int v1)] [.int 4, .int v1] (by decide +kernel) rfl rfl ?_
    refine jIcmp_ge C 9 18 (by decide +kernel : decode cX5_termOf 6 = .ok (.if_icmp .ge 12, 3)) rfl rfl (fun c2 => ?_) (fun c2 => ?_)
    · have h := it1 h c2
      refine jB C [(.iconst 0, 1, 0)] 19 [(0, .ref (b + v0)), (1, .int v1)] [.int 0] (by decide +kernel) rfl rfl ?_
      exact jRetI C (by decide +kernel : decode cX5_termOf 19 = .ok (.ireturn, 1)) (Nat.le_refl _) (Nat.le_refl _) ⟨rfl, h⟩
    · have h := it2 h c2
      refine jB C [(.aload_n 0, 1, 0)] 10 [(0, .ref (b + v0)), (1, .int v1)] [.ref (b + v0)] (by decide +kernel) rfl rfl ?_
      obtain ⟨a3, e_a3, h⟩ := h
      refine jGetR C 13 (by decide +kernel : decode cX5_termOf 10 = .ok (.getfield 21, 3)) rfl t_v0 kX5 4 (by decide) rfl rfl (by decide) wd_45 e_a3 rfl (fun t_a3 => ?_)
      refine jB C [(.iload_n 1, 1, 0)] 14 [(0, .ref (b + v0)), (1, .int v1)] [.int v1, .ref (b + a3)] (by decide +kernel) rfl rfl ?_
      obtain ⟨y4, h⟩ := h
      refine jIald C 15 (by decide +kernel : decode cX5_termOf 14 = .ok (.iaload, 1)) rfl t_a3 y4 ?_
      refine jGoto C 19 (by decide +kernel : decode cX5_termOf 15 = .ok (.goto 4, 3)) rfl ?_
      exact jRetI C (by decide +kernel : decode cX5_termOf 19 = .ok (.ireturn, 1)) (Nat.le_refl _) (Nat.le_refl _) ⟨rfl, h⟩
theorem ok_X5_termOf {G : Gm} {v0 : Nat} {v1 : Int32} {S : St} {Q : Int32 → St → Prop}  (t_v0 : ok G 4 v0) (h : f_X5_termOf G v0 v1 Q S) : MT yX5_termOf cX5_termOf 2 (some .int) rm_X5_termOf 0 0 (fun b => [.ref (b + v0), .int v1]) G S (QI (fun r G1 S1 => G1 = G ∧ Q r S1)) := MT.ofJ (by decide +kernel) (fun b => [(0, .ref (b + v0)), (1, .int v1)]) (fun b => rfl) (fun b => Nat.le_of_ble_eq_true rfl) (fun l b D cy p e s m below meth c C hE hn => j_X5_termOf C hE t_v0 h)
theorem hd_X5_termOf : yX5_termOf.cls ≠ "java/lang/invoke/MethodHandle" ∧ yX5_termOf.cls ≠ "java/lang/invoke/VarHandle" ∧ (parseMethodDescriptor yX5_termOf.desc).map (fun d => d.parameters.length) = some 1 := by decide +kernel
abbrev rm_X5_has : Room := { frames := 0, cells := 0, slots := 0, locals := 0 }
set_option maxHeartbeats 4000000 in
set_option maxRecDepth 100000 in
theorem j_X5_has {p : Program} {l : Launch} {e : Env} {s : State} {m : MethodId} {args : Array Value} {below : List Frame} {meth : Method} {c : Code} {b : Nat} {D : va_G} {cy : Nat → ClassId} {G : Gm} {v0 : Nat} {v1 : Int32} {S : St} {Q : Int32 → St → Prop} (C : CX p s m args meth c b D cy cX5_has RX5 2 (some .boolean)) (hE : s.heap.size + 0 ≤ b + G.2.2) (t_v0 : ok G 4 v0) (h : f_X5_has G v0 v1 Q S) : J p l e rm_X5_has s m args below meth c b D cy 2 (zI b D cy below args s G Q) 0 0 G S 0 [(0, .ref (b + v0)), (1, .int v1)] [] := by
  unfold f_X5_has at h
  refine jB C [(.iload_n 1, 1, 0)] 1 [(0, .ref (b + v0)), (1, .int v1)] [.int v1] (by decide +kernel) rfl rfl ?_
  refine jIf_lt C 4 22 (by decide +kernel : decode cX5_has 1 = .ok (.ifCond .lt 21, 3)) rfl rfl (fun c1 => ?_) (fun c1 => ?_)
  · have h := it1 h c1
    refine jB C [(.iconst 0, 1, 0)] 23 [(0, .ref (b + v0)), (1, .int v1)] [.int 0] (by decide +kernel) rfl rfl ?_
    exact jRetZ C (by decide +kernel : decode cX5_has 23 = .ok (.ireturn, 1)) (Nat.le_refl _) (Nat.le_refl _) (by decide) ⟨rfl, h⟩
  · have h := it2 h c1
    refine jB C [(.iload_n 1, 1, 0), (.aload_n 0, 1, 0)] 6 [(0, .ref (b + v0)), (1, .int v1)] [.ref (b + v0), .int v1] (by decide +kernel) rfl rfl ?_
    refine jGetI C 9 (by decide +kernel : decode cX5_has 6 = .ok (.getfield 40, 3)) rfl t_v0 kX5 0 (by decide) rfl rfl (by decide) wd_36 ?_
    refine jIcmp_ge C 12 22 (by decide +kernel : decode cX5_has 9 = .ok (.if_icmp .ge 13, 3)) rfl rfl (fun c2 => ?_) (fun c2 => ?_)
    · have h := it1 h c2
      refine jB C [(.iconst 0, 1, 0)] 23 [(0, .ref (b + v0)), (1, .int v1)] [.int 0] (by decide +kernel) rfl rfl ?_
      exact jRetZ C (by decide +kernel : decode cX5_has 23 = .ok (.ireturn, 1)) (Nat.le_refl _) (Nat.le_refl _) (by decide) ⟨rfl, h⟩
    · have h := it2 h c2
      refine jB C [(.iload_n 1, 1, 0), (.bipush 6, 2, 6)] 15 [(0, .ref (b + v0)), (1, .int v1)] [.int 6, .int v1] (by decide +kernel) rfl rfl ?_
      refine jIcmp_ge C 18 22 (by decide +kernel : decode cX5_has 15 = .ok (.if_icmp .ge 7, 3)) rfl rfl (fun c3 => ?_) (fun c3 => ?_)
      · have h := it1 h c3
        refine jB C [(.iconst 0, 1, 0)] 23 [(0, .ref (b + v0)), (1, .int v1)] [.int 0] (by decide +kernel) rfl rfl ?_
        exact jRetZ C (by decide +kernel : decode cX5_has 23 = .ok (.ireturn, 1)) (Nat.le_refl _) (Nat.le_refl _) (by decide) ⟨rfl, h⟩
      · have h := it2 h c3
        refine jB C [(.iconst 1, 1, 1)] 19 [(0, .ref (b + v0)), (1, .int v1)] [.int 1] (by decide +kernel) rfl rfl ?_
        refine jGoto C 23 (by decide +kernel : decode cX5_has 19 = .ok (.goto 4, 3)) rfl ?_
        exact jRetZ C (by decide +kernel : decode cX5_has 23 = .ok (.ireturn, 1)) (Nat.le_refl _) (Nat.le_refl _) (by decide) ⟨rfl, h⟩
theorem ok_X5_has {G : Gm} {v0 : Nat} {v1 : Int32} {S : St} {Q : Int32 → St → Prop}  (t_v0 : ok G 4 v0) (h : f_X5_has G v0 v1 Q S) : MT yX5_has cX5_has 2 (some .boolean) rm_X5_has 0 0 (fun b => [.ref (b + v0), .int v1]) G S (QI (fun r G1 S1 => G1 = G ∧ Q r S1)) := MT.ofJ (by decide +kernel) (fun b => [(0, .ref (b + v0)), (1, .int v1)]) (fun b => rfl) (fun b => Nat.le_of_ble_eq_true rfl) (fun l b D cy p e s m below meth c C hE hn => j_X5_has C hE t_v0 h)
theorem hd_X5_has : yX5_has.cls ≠ "java/lang/invoke/MethodHandle" ∧ yX5_has.cls ≠ "java/lang/invoke/VarHandle" ∧ (parseMethodDescriptor yX5_has.desc).map (fun d => d.parameters.length) = some 1 := by decide +kernel
abbrev rm_X5_glassOf : Room := { frames := 1, cells := 0, slots := 0, locals := 21 }
set_option maxHeartbeats 4000000 in
set_option maxRecDepth 100000 in
theorem j_X5_glassOf {p : Program} {l : Launch} {e : Env} {s : State} {m : MethodId} {args : Array Value} {below : List Frame} {meth : Method} {c : Code} {b : Nat} {D : va_G} {cy : Nat → ClassId} {G : Gm} {v0 : Nat} {v1 : Int32} {S : St} {Q : Int32 → St → Prop} (C : CX p s m args meth c b D cy cX5_glassOf RX5 2 (some .int)) (hE : s.heap.size + 0 ≤ b + G.2.2) (t_v0 : ok G 4 v0) (h : f_X5_glassOf G v0 v1 Q S) : J p l e rm_X5_glassOf s m args below meth c b D cy 2 (zI b D cy below args s G Q) 0 0 G S 0 [(0, .ref (b + v0)), (1, .int v1)] [] := by
  unfold f_X5_glassOf at h
  refine jB C [(.aload_n 0, 1, 0), (.iload_n 1, 1, 0)] 2 [(0, .ref (b + v0)), (1, .int v1)] [.int v1, .ref (b + v0)] (by decide +kernel) rfl rfl ?_
  refine jcV_I C 5 (rest := []) (ok_X5_has t_v0 h) (by decide +kernel : decode cX5_glassOf 2 = .ok (.invokevirtual 66, 3)) rfl wd_371 wd_373 wp_4 wd_2 wd_374 ⟨rfl, rfl⟩ hd_X5_has ⟨Nat.le_of_ble_eq_true rfl, Nat.le_of_ble_eq_true rfl⟩ t_v0 kX5 (by decide) rfl rfl rfl (Nat.le_of_ble_eq_true rfl) ⟨Nat.zero_le _, Nat.zero_le _⟩ (fun r2 S1 h => ?_)
  refine jIf_eq C 8 17 (by decide +kernel : decode cX5_glassOf 5 = .ok (.ifCond .eq 12, 3)) rfl rfl (fun c3 => ?_) (fun c3 => ?_)
  · have h := it1 h c3
    refine jB C [(.iconst 0, 1, 0)] 18 [(0, .ref (b + v0)), (1, .int v1)] [.int 0] (by decide +kernel) rfl rfl ?_
    exact jRetI C (by decide +kernel : decode cX5_glassOf 18 = .ok (.ireturn, 1)) (Nat.le_refl _) (Nat.le_refl _) ⟨rfl, h⟩
  · have h := it2 h c3
    refine jB C [(.aload_n 0, 1, 0)] 9 [(0, .ref (b + v0)), (1, .int v1)] [.ref (b + v0)] (by decide +kernel) rfl rfl ?_
    obtain ⟨a4, e_a4, h⟩ := h
    refine jGetR C 12 (by decide +kernel : decode cX5_glassOf 9 = .ok (.getfield 15, 3)) rfl t_v0 kX5 2 (by decide) rfl rfl (by decide) wd_42 e_a4 rfl (fun t_a4 => ?_)
    refine jB C [(.iload_n 1, 1, 0)] 13 [(0, .ref (b + v0)), (1, .int v1)] [.int v1, .ref (b + a4)] (by decide +kernel) rfl rfl ?_
    obtain ⟨y5, h⟩ := h
    refine jIald C 14 (by decide +kernel : decode cX5_glassOf 13 = .ok (.iaload, 1)) rfl t_a4 y5 ?_
    refine jGoto C 18 (by decide +kernel : decode cX5_glassOf 14 = .ok (.goto 4, 3)) rfl ?_
    exact jRetI C (by decide +kernel : decode cX5_glassOf 18 = .ok (.ireturn, 1)) (Nat.le_refl _) (Nat.le_refl _) ⟨rfl, h⟩
theorem ok_X5_glassOf {G : Gm} {v0 : Nat} {v1 : Int32} {S : St} {Q : Int32 → St → Prop}  (t_v0 : ok G 4 v0) (h : f_X5_glassOf G v0 v1 Q S) : MT yX5_glassOf cX5_glassOf 2 (some .int) rm_X5_glassOf 0 0 (fun b => [.ref (b + v0), .int v1]) G S (QI (fun r G1 S1 => G1 = G ∧ Q r S1)) := MT.ofJ (by decide +kernel) (fun b => [(0, .ref (b + v0)), (1, .int v1)]) (fun b => rfl) (fun b => Nat.le_of_ble_eq_true rfl) (fun l b D cy p e s m below meth c C hE hn => j_X5_glassOf C hE t_v0 h)
theorem hd_X5_glassOf : yX5_glassOf.cls ≠ "java/lang/invoke/MethodHandle" ∧ yX5_glassOf.cls ≠ "java/lang/invoke/VarHandle" ∧ (parseMethodDescriptor yX5_glassOf.desc).map (fun d => d.parameters.length) = some 1 := by decide +kernel
abbrev rm_X3_bend : Room := { frames := 0, cells := 0, slots := 0, locals := 0 }
set_option maxHeartbeats 4000000 in
set_option maxRecDepth 100000 in
theorem j_X3_bend {p : Program} {l : Launch} {e : Env} {s : State} {m : MethodId} {args : Array Value} {below : List Frame} {meth : Method} {c : Code} {b : Nat} {D : va_G} {cy : Nat → ClassId} {G : Gm} {v0 : Int32} {v1 : Int32} {S : St} {Q : Int32 → St → Prop} (C : CX p s m args meth c b D cy cX3_bend RX3 4 (some .int)) (hE : s.heap.size + 0 ≤ b + G.2.2) (h : f_X3_bend G v0 v1 Q S) : J p l e rm_X3_bend s m args below meth c b D cy 4 (zI b D cy below args s G Q) 0 0 G S 0 [(0, .int v0), (1, .int v1)] [] := by
  unfold f_X3_bend at h
  refine jB C [(.iload_n 0, 1, 0)] 1 [(0, .int v0), (1, .int v1)] [.int v0] (by decide +kernel) rfl rfl ?_
  by_cases c3_0 : v0 = 1
  · have h := it1 h c3_0
    refine jTabIn C 44 1 (by decide +kernel : decode cX3_bend 1 = .ok (.tableswitch 140 1 7 #[43, 53, 98, 111, 116, 128, 134], 43)) c3_0 ⟨rfl, rfl, rfl, rfl⟩ ?_
    refine jB C [(.iload_n 1, 1, 0), (.iload_n 1, 1, 0), (.iconst 1, 1, 1), (.ishl, 1, 0), (.ior, 1, 0), (.sipush 255, 3, 255), (.iand, 1, 0)] 53 [(0, .int v0), (1, .int v1)] [.int ((v1 ||| (v1 <<< ((1 : Int32) &&& 31))) &&& 255)] (by decide +kernel) rfl rfl ?_
    exact jRetI C (by decide +kernel : decode cX3_bend 53 = .ok (.ireturn, 1)) (Nat.le_refl _) (Nat.le_refl _) ⟨rfl, h⟩
  · have h := it2 h c3_0
    by_cases c3_1 : v0 = 2
    · have h := it1 h c3_1
      refine jTabIn C 54 2 (by decide +kernel : decode cX3_bend 1 = .ok (.tableswitch 140 1 7 #[43, 53, 98, 111, 116, 128, 134], 43)) c3_1 ⟨rfl, rfl, rfl, rfl⟩ ?_
      refine jB C [(.iload_n 1, 1, 0), (.iconst 4, 1, 4), (.ishl, 1, 0), (.sipush 240, 3, 240), (.iand, 1, 0), (.iload_n 1, 1, 0), (.iconst 4, 1, 4), (.ishr, 1, 0), (.bipush 15, 2, 15), (.iand, 1, 0), (.ior, 1, 0)] 68 [(0, .int v0), (1, .int v1)] [.int (((v1 <<< ((4 : Int32) &&& 31)) &&& 240) ||| ((v1 >>> ((4 : Int32) &&& 31)) &&& 15))] (by decide +kernel) rfl rfl ?_
      refine jTopI (fun x1 e_x1 => ?_)
      have h := h x1 e_x1
      refine jB C [(.istore_n 2, 1, 0), (.iload_n 2, 1, 0), (.iconst 2, 1, 2), (.ishl, 1, 0), (.sipush 204, 3, 204), (.iand, 1, 0), (.iload_n 2, 1, 0), (.iconst 2, 1, 2), (.ishr, 1, 0), (.bipush 51, 2, 51), (.iand, 1, 0), (.ior, 1, 0)] 83 [(2, .int x1), (0, .int v0), (1, .int v1)] [.int (((x1 <<< ((2 : Int32) &&& 31)) &&& 204) ||| ((x1 >>> ((2 : Int32) &&& 31)) &&& 51))] (by decide +kernel) rfl rfl ?_
      refine jTopI (fun x2 e_x2 => ?_)
      have h := h x2 e_x2
      refine jB C [(.istore_n 3, 1, 0), (.iload_n 3, 1, 0), (.iconst 1, 1, 1), (.ishl, 1, 0), (.sipush 170, 3, 170), (.iand, 1, 0), (.iload_n 3, 1, 0), (.iconst 1, 1, 1), (.ishr, 1, 0), (.bipush 85, 2, 85), (.iand, 1, 0), (.ior, 1, 0)] 98 [(3, .int x2), (2, .int x1), (0, .int v0), (1, .int v1)] [.int (((x2 <<< ((1 : Int32) &&& 31)) &&& 170) ||| ((x2 >>> ((1 : Int32) &&& 31)) &&& 85))] (by decide +kernel) rfl rfl ?_
      exact jRetI C (by decide +kernel : decode cX3_bend 98 = .ok (.ireturn, 1)) (Nat.le_refl _) (Nat.le_refl _) ⟨rfl, h⟩
    · have h := it2 h c3_1
      by_cases c3_2 : v0 = 3
      · have h := it1 h c3_2
        refine jTabIn C 99 3 (by decide +kernel : decode cX3_bend 1 = .ok (.tableswitch 140 1 7 #[43, 53, 98, 111, 116, 128, 134], 43)) c3_2 ⟨rfl, rfl, rfl, rfl⟩ ?_
        refine jB C [(.iload_n 1, 1, 0), (.iconst 1, 1, 1), (.ishl, 1, 0), (.iload_n 1, 1, 0), (.bipush 7, 2, 7), (.ishr, 1, 0), (.ior, 1, 0), (.sipush 255, 3, 255), (.iand, 1, 0)] 111 [(0, .int v0), (1, .int v1)] [.int (((v1 <<< ((1 : Int32) &&& 31)) ||| (v1 >>> ((7 : Int32) &&& 31))) &&& 255)] (by decide +kernel) rfl rfl ?_
        exact jRetI C (by decide +kernel : decode cX3_bend 111 = .ok (.ireturn, 1)) (Nat.le_refl _) (Nat.le_refl _) ⟨rfl, h⟩
      · have h := it2 h c3_2
        by_cases c3_3 : v0 = 4
        · have h := it1 h c3_3
          refine jTabIn C 112 4 (by decide +kernel : decode cX3_bend 1 = .ok (.tableswitch 140 1 7 #[43, 53, 98, 111, 116, 128, 134], 43)) c3_3 ⟨rfl, rfl, rfl, rfl⟩ ?_
          refine jB C [(.iload_n 1, 1, 0), (.bipush 126, 2, 126), (.iand, 1, 0)] 116 [(0, .int v0), (1, .int v1)] [.int (v1 &&& 126)] (by decide +kernel) rfl rfl ?_
          exact jRetI C (by decide +kernel : decode cX3_bend 116 = .ok (.ireturn, 1)) (Nat.le_refl _) (Nat.le_refl _) ⟨rfl, h⟩
        · have h := it2 h c3_3
          by_cases c3_4 : v0 = 5
          · have h := it1 h c3_4
            refine jTabIn C 117 5 (by decide +kernel : decode cX3_bend 1 = .ok (.tableswitch 140 1 7 #[43, 53, 98, 111, 116, 128, 134], 43)) c3_4 ⟨rfl, rfl, rfl, rfl⟩ ?_
            refine jB C [(.iload_n 1, 1, 0), (.iconst 4, 1, 4), (.ishl, 1, 0), (.iload_n 1, 1, 0), (.iconst 4, 1, 4), (.ishr, 1, 0), (.ior, 1, 0), (.sipush 255, 3, 255), (.iand, 1, 0)] 128 [(0, .int v0), (1, .int v1)] [.int (((v1 <<< ((4 : Int32) &&& 31)) ||| (v1 >>> ((4 : Int32) &&& 31))) &&& 255)] (by decide +kernel) rfl rfl ?_
            exact jRetI C (by decide +kernel : decode cX3_bend 128 = .ok (.ireturn, 1)) (Nat.le_refl _) (Nat.le_refl _) ⟨rfl, h⟩
          · have h := it2 h c3_4
            by_cases c3_5 : v0 = 6
            · have h := it1 h c3_5
              refine jTabIn C 129 6 (by decide +kernel : decode cX3_bend 1 = .ok (.tableswitch 140 1 7 #[43, 53, 98, 111, 116, 128, 134], 43)) c3_5 ⟨rfl, rfl, rfl, rfl⟩ ?_
              refine jB C [(.iload_n 1, 1, 0), (.sipush 255, 3, 255), (.ixor, 1, 0)] 134 [(0, .int v0), (1, .int v1)] [.int (v1 ^^^ 255)] (by decide +kernel) rfl rfl ?_
              exact jRetI C (by decide +kernel : decode cX3_bend 134 = .ok (.ireturn, 1)) (Nat.le_refl _) (Nat.le_refl _) ⟨rfl, h⟩
            · have h := it2 h c3_5
              by_cases c3_6 : v0 = 7
              · have h := it1 h c3_6
                refine jTabIn C 135 7 (by decide +kernel : decode cX3_bend 1 = .ok (.tableswitch 140 1 7 #[43, 53, 98, 111, 116, 128, 134], 43)) c3_6 ⟨rfl, rfl, rfl, rfl⟩ ?_
                refine jB C [(.iload_n 1, 1, 0), (.iload_n 1, 1, 0), (.iconst 1, 1, 1), (.ishr, 1, 0), (.iand, 1, 0)] 140 [(0, .int v0), (1, .int v1)] [.int (v1 &&& (v1 >>> ((1 : Int32) &&& 31)))] (by decide +kernel) rfl rfl ?_
                exact jRetI C (by decide +kernel : decode cX3_bend 140 = .ok (.ireturn, 1)) (Nat.le_refl _) (Nat.le_refl _) ⟨rfl, h⟩
              · have h := it2 h c3_6
                refine jTabOut C 141 (by decide +kernel : decode cX3_bend 1 = .ok (.tableswitch 140 1 7 #[43, 53, 98, 111, 116, 128, 134], 43)) rfl (by have := lv_neT c3_0 (a := 1) rfl; have := lv_neT c3_1 (a := 2) rfl; have := lv_neT c3_2 (a := 3) rfl; have := lv_neT c3_3 (a := 4) rfl; have := lv_neT c3_4 (a := 5) rfl; have := lv_neT c3_5 (a := 6) rfl; have := lv_neT c3_6 (a := 7) rfl; omega) ?_
                refine jB C [(.iload_n 1, 1, 0)] 142 [(0, .int v0), (1, .int v1)] [.int v1] (by decide +kernel) rfl rfl ?_
                exact jRetI C (by decide +kernel : decode cX3_bend 142 = .ok (.ireturn, 1)) (Nat.le_refl _) (Nat.le_refl _) ⟨rfl, h⟩
theorem ok_X3_bend {G : Gm} {v0 : Int32} {v1 : Int32} {S : St} {Q : Int32 → St → Prop}  (h : f_X3_bend G v0 v1 Q S) : MT yX3_bend cX3_bend 4 (some .int) rm_X3_bend 0 0 (fun b => [.int v0, .int v1]) G S (QI (fun r G1 S1 => G1 = G ∧ Q r S1)) := MT.ofJ (by decide +kernel) (fun b => [(0, .int v0), (1, .int v1)]) (fun b => rfl) (fun b => Nat.le_of_ble_eq_true rfl) (fun l b D cy p e s m below meth c C hE hn => j_X3_bend C hE h)
theorem hd_X3_bend : yX3_bend.cls ≠ "java/lang/invoke/MethodHandle" ∧ yX3_bend.cls ≠ "java/lang/invoke/VarHandle" ∧ (parseMethodDescriptor yX3_bend.desc).map (fun d => d.parameters.length) = some 2 := by decide +kernel
abbrev rm_X3_through : Room := { frames := 1, cells := 0, slots := 0, locals := 23 }
set_option maxHeartbeats 4000000 in
set_option maxRecDepth 100000 in
theorem j_X3_through_32 {p : Program} {l : Launch} {e : Env} {s : State} {m : MethodId} {args : Array Value} {below : List Frame} {meth : Method} {c : Code} {b : Nat} {D : va_G} {cy : Nat → ClassId} {G : Gm} {k6 : Int32 → Int32 → St → Prop} {v0 : Int32} {v2 : Int32} {v3 : Int32} {S : St} {Q : Int32 → St → Prop} (C : CX p s m args meth c b D cy cX3_through RX3 5 (some .int)) (hE : s.heap.size + 0 ≤ b + G.2.2) (hk6 : ∀ v2' v3' S, k6 v2' v3' S → J p l e rm_X3_through s m args below meth c b D cy 5 (zI b D cy below args s G Q) 0 0 G S 6 [(0, .int v0), (2, .int (v2')), (3, .int (v3'))] []) (h : f_X3_through_32 G k6 v0 v2 v3 Q S) : J p l e rm_X3_through s m args below meth c b D cy 5 (zI b D cy below args s G Q) 0 0 G S 32 [(0, .int v0), (2, .int v2), (3, .int v3)] [] := by
  unfold f_X3_through_32 at h
  refine jB C [(.iload_n 3, 1, 0), (.bipush 10, 2, 10)] 35 [(0, .int v0), (2, .int v2), (3, .int v3)] [.int 10, .int v3] (by decide +kernel) rfl rfl ?_
  refine jIdiv C 36 (by decide +kernel : decode cX3_through 35 = .ok (.idiv, 1)) rfl (by decide) ?_
  refine jTopI (fun x1 e_x1 => ?_)
  have h := h x1 e_x1
  refine jB C [(.istore_n 3, 1, 0)] 37 [(3, .int x1), (0, .int v0), (2, .int v2)] [] (by decide +kernel) rfl rfl ?_
  refine jGoto C 6 (by decide +kernel : decode cX3_through 37 = .ok (.goto (-31), 3)) rfl ?_
  refine jSub [1, 2, 0] rfl ?_
  exact hk6 v2 x1 S h
set_option maxHeartbeats 4000000 in
set_option maxRecDepth 100000 in
theorem j_X3_through_6_n {p : Program} {l : Launch} {e : Env} {s : State} {m : MethodId} {args : Array Value} {below : List Frame} {meth : Method} {c : Code} {b : Nat} {D : va_G} {cy : Nat → ClassId} {G : Gm} {v0 : Int32} {Q : Int32 → St → Prop} (C : CX p s m args meth c b D cy cX3_through RX3 5 (some .int)) (hE : s.heap.size + 0 ≤ b + G.2.2) : ∀ k (v2 : Int32) (v3 : Int32) S, f_X3_through_6_n G v0 Q k v2 v3 S → J p l e rm_X3_through s m args below meth c b D cy 5 (zI b D cy below args s G Q) 0 0 G S 6 [(0, .int v0), (2, .int v2), (3, .int v3)] [] := by
  intro k
  induction k with
  | zero => intro v2 v3 S h; exact h.elim
  | succ k ih =>
    intro v2 v3 S h
    unfold f_X3_through_6_n at h
    refine jB C [(.iload_n 3, 1, 0)] 7 [(0, .int v0), (2, .int v2), (3, .int v3)] [.int v3] (by decide +kernel) rfl rfl ?_
    refine jIf_le C 10 40 (by decide +kernel : decode cX3_through 7 = .ok (.ifCond .le 33, 3)) rfl rfl (fun c1 => ?_) (fun c1 => ?_)
    · have h := it1 h c1
      refine jB C [(.iload_n 2, 1, 0)] 41 [(0, .int v0), (2, .int v2), (3, .int v3)] [.int v2] (by decide +kernel) rfl rfl ?_
      exact jRetI C (by decide +kernel : decode cX3_through 41 = .ok (.ireturn, 1)) (Nat.le_refl _) (Nat.le_refl _) ⟨rfl, h⟩
    · have h := it2 h c1
      refine jB C [(.iload_n 0, 1, 0), (.iload_n 3, 1, 0)] 12 [(0, .int v0), (2, .int v2), (3, .int v3)] [.int v3, .int v0] (by decide +kernel) rfl rfl ?_
      obtain ⟨y6, h⟩ := h
      refine jIdiv C 13 (by decide +kernel : decode cX3_through 12 = .ok (.idiv, 1)) rfl y6 ?_
      refine jB C [(.bipush 10, 2, 10)] 15 [(0, .int v0), (2, .int v2), (3, .int v3)] [.int 10, .int (v0 / v3)] (by decide +kernel) rfl rfl ?_
      refine jIrem C 16 (by decide +kernel : decode cX3_through 15 = .ok (.irem, 1)) rfl (by decide) ?_
      refine jTopI (fun x2 e_x2 => ?_)
      have h := h x2 e_x2
      refine jB C [(.istore 4, 2, 0), (.iload 4, 2, 0)] 20 [(4, .int x2), (0, .int v0), (2, .int v2), (3, .int v3)] [.int x2] (by decide +kernel) rfl rfl ?_
      refine jIf_le C 23 32 (by decide +kernel : decode cX3_through 20 = .ok (.ifCond .le 12, 3)) rfl rfl (fun c3 => ?_) (fun c3 => ?_)
      · have h := it1 h c3
        refine jSub [1, 2, 3] rfl ?_
        exact j_X3_through_32 C hE ih h
      · have h := it2 h c3
        refine jB C [(.iload 4, 2, 0), (.iconst 1, 1, 1), (.isub, 1, 0), (.iload_n 2, 1, 0)] 28 [(4, .int x2), (0, .int v0), (2, .int v2), (3, .int v3)] [.int v2, .int (x2 - 1)] (by decide +kernel) rfl rfl ?_
        refine jcS_I C 31 (rest := []) (ok_X3_bend h) (by decide +kernel : decode cX3_through 28 = .ok (.invokestatic 11, 3)) rfl wd_423 wd_424 wd_13 wd_425 ⟨rfl, rfl⟩ hd_X3_bend ⟨Nat.le_of_ble_eq_true rfl, Nat.le_of_ble_eq_true rfl⟩ rfl rfl (Nat.le_of_ble_eq_true rfl) ⟨Nat.zero_le _, Nat.zero_le _⟩ (fun r5 S4 h => ?_)
        refine jB C [(.istore_n 2, 1, 0)] 32 [(2, .int r5), (4, .int x2), (0, .int v0), (3, .int v3)] [] (by decide +kernel) rfl rfl ?_
        refine jSub [2, 0, 3] rfl ?_
        exact j_X3_through_32 C hE ih h
theorem j_X3_through_6 {p : Program} {l : Launch} {e : Env} {s : State} {m : MethodId} {args : Array Value} {below : List Frame} {meth : Method} {c : Code} {b : Nat} {D : va_G} {cy : Nat → ClassId} {G : Gm} {v0 : Int32} {v2 : Int32} {v3 : Int32} {S : St} {Q : Int32 → St → Prop} (C : CX p s m args meth c b D cy cX3_through RX3 5 (some .int)) (hE : s.heap.size + 0 ≤ b + G.2.2) (h : f_X3_through_6 G v0 Q v2 v3 S) : J p l e rm_X3_through s m args below meth c b D cy 5 (zI b D cy below args s G Q) 0 0 G S 6 [(0, .int v0), (2, .int v2), (3, .int v3)] [] := by
  obtain ⟨k, h⟩ := h
  exact j_X3_through_6_n C hE k v2 v3 S h
set_option maxHeartbeats 4000000 in
set_option maxRecDepth 100000 in
theorem j_X3_through {p : Program} {l : Launch} {e : Env} {s : State} {m : MethodId} {args : Array Value} {below : List Frame} {meth : Method} {c : Code} {b : Nat} {D : va_G} {cy : Nat → ClassId} {G : Gm} {v0 : Int32} {v1 : Int32} {S : St} {Q : Int32 → St → Prop} (C : CX p s m args meth c b D cy cX3_through RX3 5 (some .int)) (hE : s.heap.size + 0 ≤ b + G.2.2) (h : f_X3_through G v0 v1 Q S) : J p l e rm_X3_through s m args below meth c b D cy 5 (zI b D cy below args s G Q) 0 0 G S 0 [(0, .int v0), (1, .int v1)] [] := by
  unfold f_X3_through at h
  refine jB C [(.iload_n 1, 1, 0), (.istore_n 2, 1, 0), (.sipush 1000, 3, 1000), (.istore_n 3, 1, 0)] 6 [(3, .int 1000), (2, .int v1), (0, .int v0), (1, .int v1)] [] (by decide +kernel) rfl rfl ?_
  refine jSub [2, 1, 0] rfl ?_
  exact j_X3_through_6 C hE h
theorem ok_X3_through {G : Gm} {v0 : Int32} {v1 : Int32} {S : St} {Q : Int32 → St → Prop}  (h : f_X3_through G v0 v1 Q S) : MT yX3_through cX3_through 5 (some .int) rm_X3_through 0 0 (fun b => [.int v0, .int v1]) G S (QI (fun r G1 S1 => G1 = G ∧ Q r S1)) := MT.ofJ (by decide +kernel) (fun b => [(0, .int v0), (1, .int v1)]) (fun b => rfl) (fun b => Nat.le_of_ble_eq_true rfl) (fun l b D cy p e s m below meth c C hE hn => j_X3_through C hE h)
theorem hd_X3_through : yX3_through.cls ≠ "java/lang/invoke/MethodHandle" ∧ yX3_through.cls ≠ "java/lang/invoke/VarHandle" ∧ (parseMethodDescriptor yX3_through.desc).map (fun d => d.parameters.length) = some 2 := by decide +kernel
abbrev rm_X5_sightOf : Room := { frames := 2, cells := 0, slots := 0, locals := 47 }
set_option maxHeartbeats 4000000 in
set_option maxRecDepth 100000 in
theorem j_X5_sightOf {p : Program} {l : Launch} {e : Env} {s : State} {m : MethodId} {args : Array Value} {below : List Frame} {meth : Method} {c : Code} {b : Nat} {D : va_G} {cy : Nat → ClassId} {G : Gm} {v0 : Nat} {v1 : Int32} {S : St} {Q : Int32 → St → Prop} (C : CX p s m args meth c b D cy cX5_sightOf RX5 2 (some .int)) (hE : s.heap.size + 0 ≤ b + G.2.2) (t_v0 : ok G 4 v0) (h : f_X5_sightOf G v0 v1 Q S) : J p l e rm_X5_sightOf s m args below meth c b D cy 2 (zI b D cy below args s G Q) 0 0 G S 0 [(0, .ref (b + v0)), (1, .int v1)] [] := by
  unfold f_X5_sightOf at h
  refine jB C [(.aload_n 0, 1, 0), (.iload_n 1, 1, 0)] 2 [(0, .ref (b + v0)), (1, .int v1)] [.int v1, .ref (b + v0)] (by decide +kernel) rfl rfl ?_
  refine jcV_I C 5 (rest := []) (ok_X5_glassOf t_v0 h) (by decide +kernel : decode cX5_sightOf 2 = .ok (.invokevirtual 81, 3)) rfl wd_415 wd_402 wp_9 wd_2 wd_403 ⟨rfl, rfl⟩ hd_X5_glassOf ⟨Nat.le_of_ble_eq_true rfl, Nat.le_of_ble_eq_true rfl⟩ t_v0 kX5 (by decide) rfl rfl rfl (Nat.le_of_ble_eq_true rfl) ⟨Nat.zero_le _, Nat.zero_le _⟩ (fun r2 S1 h => ?_)
  refine jB C [(.aload_n 0, 1, 0), (.iconst 3, 1, 3)] 7 [(0, .ref (b + v0)), (1, .int v1)] [.int 3, .ref (b + v0), .int r2] (by decide +kernel) rfl rfl ?_
  refine jcV_I C 10 (rest := [.int r2]) (ok_X5_termOf t_v0 h) (by decide +kernel : decode cX5_sightOf 7 = .ok (.invokevirtual 84, 3)) rfl wd_416 wd_418 wp_11 wd_2 wd_419 ⟨rfl, rfl⟩ hd_X5_termOf ⟨Nat.le_of_ble_eq_true rfl, Nat.le_of_ble_eq_true rfl⟩ t_v0 kX5 (by decide) rfl rfl rfl (Nat.le_of_ble_eq_true rfl) ⟨Nat.zero_le _, Nat.zero_le _⟩ (fun r4 S3 h => ?_)
  refine jcSN_I C 13 (rest := []) (ok_X3_through h) (by decide +kernel : decode cX5_sightOf 10 = .ok (.invokestatic 87, 3)) rfl wn_420 wd_421 wd_13 wd_422 ⟨rfl, rfl⟩ hd_X3_through ⟨Nat.le_of_ble_eq_true rfl, Nat.le_of_ble_eq_true rfl⟩ rfl rfl (Nat.le_of_ble_eq_true rfl) ⟨Nat.zero_le _, Nat.zero_le _⟩ (fun r6 S5 h => ?_)
  exact jRetI C (by decide +kernel : decode cX5_sightOf 13 = .ok (.ireturn, 1)) (Nat.le_refl _) (Nat.le_refl _) ⟨rfl, h⟩
theorem ok_X5_sightOf {G : Gm} {v0 : Nat} {v1 : Int32} {S : St} {Q : Int32 → St → Prop}  (t_v0 : ok G 4 v0) (h : f_X5_sightOf G v0 v1 Q S) : MT yX5_sightOf cX5_sightOf 2 (some .int) rm_X5_sightOf 0 0 (fun b => [.ref (b + v0), .int v1]) G S (QI (fun r G1 S1 => G1 = G ∧ Q r S1)) := MT.ofJ (by decide +kernel) (fun b => [(0, .ref (b + v0)), (1, .int v1)]) (fun b => rfl) (fun b => Nat.le_of_ble_eq_true rfl) (fun l b D cy p e s m below meth c C hE hn => j_X5_sightOf C hE t_v0 h)
theorem hd_X5_sightOf : yX5_sightOf.cls ≠ "java/lang/invoke/MethodHandle" ∧ yX5_sightOf.cls ≠ "java/lang/invoke/VarHandle" ∧ (parseMethodDescriptor yX5_sightOf.desc).map (fun d => d.parameters.length) = some 1 := by decide +kernel
abbrev rm_X5_sinsOf : Room := { frames := 1, cells := 0, slots := 0, locals := 21 }
set_option maxHeartbeats 4000000 in
set_option maxRecDepth 100000 in
theorem j_X5_sinsOf_14_n {p : Program} {l : Launch} {e : Env} {s : State} {m : MethodId} {args : Array Value} {below : List Frame} {meth : Method} {c : Code} {b : Nat} {D : va_G} {cy : Nat → ClassId} {G : Gm} {v0 : Nat} {v1 : Int32} {Q : Int32 → St → Prop} (C : CX p s m args meth c b D cy cX5_sinsOf RX5 4 (some .int)) (hE : s.heap.size + 0 ≤ b + G.2.2) (t_v0 : ok G 4 v0) : ∀ k (v2 : Int32) (v3 : Int32) S, f_X5_sinsOf_14_n G v0 v1 Q k v2 v3 S → J p l e rm_X5_sinsOf s m args below meth c b D cy 4 (zI b D cy below args s G Q) 0 0 G S 14 [(0, .ref (b + v0)), (1, .int v1), (2, .int v2), (3, .int v3)] [] := by
  intro k
  induction k with
  | zero => intro v2 v3 S h; exact h.elim
  | succ k ih =>
    intro v2 v3 S h
    unfold f_X5_sinsOf_14_n at h
    refine jB C [(.iload_n 3, 1, 0), (.iconst 4, 1, 4)] 16 [(0, .ref (b + v0)), (1, .int v1), (2, .int v2), (3, .int v3)] [.int 4, .int v3] (by decide +kernel) rfl rfl ?_
    refine jIcmp_ge C 19 38 (by decide +kernel : decode cX5_sinsOf 16 = .ok (.if_icmp .ge 22, 3)) rfl rfl (fun c1 => ?_) (fun c1 => ?_)
    · have h := it1 h c1
      refine jB C [(.iload_n 2, 1, 0)] 39 [(0, .ref (b + v0)), (1, .int v1), (2, .int v2), (3, .int v3)] [.int v2] (by decide +kernel) rfl rfl ?_
      exact jRetI C (by decide +kernel : decode cX5_sinsOf 39 = .ok (.ireturn, 1)) (Nat.le_refl _) (Nat.le_refl _) ⟨rfl, h⟩
    · have h := it2 h c1
      refine jB C [(.iload_n 2, 1, 0), (.aload_n 0, 1, 0)] 21 [(0, .ref (b + v0)), (1, .int v1), (2, .int v2), (3, .int v3)] [.ref (b + v0), .int v2] (by decide +kernel) rfl rfl ?_
      obtain ⟨a2, e_a2, h⟩ := h
      refine jGetR C 24 (by decide +kernel : decode cX5_sinsOf 21 = .ok (.getfield 9, 3)) rfl t_v0 kX5 1 (by decide) rfl rfl (by decide) wd_40 e_a2 rfl (fun t_a2 => ?_)
      refine jB C [(.iload_n 1, 1, 0), (.iconst 4, 1, 4), (.imul, 1, 0), (.iload_n 3, 1, 0), (.iadd, 1, 0)] 29 [(0, .ref (b + v0)), (1, .int v1), (2, .int v2), (3, .int v3)] [.int ((v1 * 4) + v3), .ref (b + a2), .int v2] (by decide +kernel) rfl rfl ?_
      obtain ⟨y3, h⟩ := h
      refine jIald C 30 (by decide +kernel : decode cX5_sinsOf 29 = .ok (.iaload, 1)) rfl t_a2 y3 ?_
      refine jB C [(.iadd, 1, 0)] 31 [(0, .ref (b + v0)), (1, .int v1), (2, .int v2), (3, .int v3)] [.int (v2 + (S.1 a2 ((v1 * 4) + v3).toNatClampNeg))] (by decide +kernel) rfl rfl ?_
      refine jTopI (fun x4 e_x4 => ?_)
      have h := h x4 e_x4
      refine jB C [(.istore_n 2, 1, 0), (.iinc 3 1, 3, 1)] 35 [(3, .int (v3 + 1)), (2, .int x4), (0, .ref (b + v0)), (1, .int v1)] [] (by decide +kernel) rfl rfl ?_
      refine jGoto C 14 (by decide +kernel : decode cX5_sinsOf 35 = .ok (.goto (-21), 3)) rfl ?_
      refine jSub [2, 3, 1, 0] rfl ?_
      exact ih x4 (v3 + 1) S h
theorem j_X5_sinsOf_14 {p : Program} {l : Launch} {e : Env} {s : State} {m : MethodId} {args : Array Value} {below : List Frame} {meth : Method} {c : Code} {b : Nat} {D : va_G} {cy : Nat → ClassId} {G : Gm} {v0 : Nat} {v1 : Int32} {v2 : Int32} {v3 : Int32} {S : St} {Q : Int32 → St → Prop} (C : CX p s m args meth c b D cy cX5_sinsOf RX5 4 (some .int)) (hE : s.heap.size + 0 ≤ b + G.2.2) (t_v0 : ok G 4 v0) (h : f_X5_sinsOf_14 G v0 v1 Q v2 v3 S) : J p l e rm_X5_sinsOf s m args below meth c b D cy 4 (zI b D cy below args s G Q) 0 0 G S 14 [(0, .ref (b + v0)), (1, .int v1), (2, .int v2), (3, .int v3)] [] := by
  obtain ⟨k, h⟩ := h
  exact j_X5_sinsOf_14_n C hE t_v0 k v2 v3 S h
set_option maxHeartbeats 4000000 in
set_option maxRecDepth 100000 in
theorem j_X5_sinsOf {p : Program} {l : Launch} {e : Env} {s : State} {m : MethodId} {args : Array Value} {below : List Frame} {meth : Method} {c : Code} {b : Nat} {D : va_G} {cy : Nat → ClassId} {G : Gm} {v0 : Nat} {v1 : Int32} {S : St} {Q : Int32 → St → Prop} (C : CX p s m args meth c b D cy cX5_sinsOf RX5 4 (some .int)) (hE : s.heap.size + 0 ≤ b + G.2.2) (t_v0 : ok G 4 v0) (h : f_X5_sinsOf G v0 v1 Q S) : J p l e rm_X5_sinsOf s m args below meth c b D cy 4 (zI b D cy below args s G Q) 0 0 G S 0 [(0, .ref (b + v0)), (1, .int v1)] [] := by
  unfold f_X5_sinsOf at h
  refine jB C [(.aload_n 0, 1, 0), (.iload_n 1, 1, 0)] 2 [(0, .ref (b + v0)), (1, .int v1)] [.int v1, .ref (b + v0)] (by decide +kernel) rfl rfl ?_
  refine jcV_I C 5 (rest := []) (ok_X5_has t_v0 h) (by decide +kernel : decode cX5_sinsOf 2 = .ok (.invokevirtual 66, 3)) rfl wd_371 wd_373 wp_4 wd_2 wd_374 ⟨rfl, rfl⟩ hd_X5_has ⟨Nat.le_of_ble_eq_true rfl, Nat.le_of_ble_eq_true rfl⟩ t_v0 kX5 (by decide) rfl rfl rfl (Nat.le_of_ble_eq_true rfl) ⟨Nat.zero_le _, Nat.zero_le _⟩ (fun r2 S1 h => ?_)
  refine jIf_ne C 8 10 (by decide +kernel : decode cX5_sinsOf 5 = .ok (.ifCond .ne 5, 3)) rfl rfl (fun c3 => ?_) (fun c3 => ?_)
  · have h := it2 h c3
    refine jB C [(.iconst 0, 1, 0), (.istore_n 2, 1, 0), (.iconst 0, 1, 0), (.istore_n 3, 1, 0)] 14 [(3, .int 0), (2, .int 0), (0, .ref (b + v0)), (1, .int v1)] [] (by decide +kernel) rfl rfl ?_
    refine jSub [2, 3, 1, 0] rfl ?_
    exact j_X5_sinsOf_14 C hE t_v0 h
  · have h := it1 h c3
    refine jB C [(.iconst 0, 1, 0)] 9 [(0, .ref (b + v0)), (1, .int v1)] [.int 0] (by decide +kernel) rfl rfl ?_
    exact jRetI C (by decide +kernel : decode cX5_sinsOf 9 = .ok (.ireturn, 1)) (Nat.le_refl _) (Nat.le_refl _) ⟨rfl, h⟩
theorem ok_X5_sinsOf {G : Gm} {v0 : Nat} {v1 : Int32} {S : St} {Q : Int32 → St → Prop}  (t_v0 : ok G 4 v0) (h : f_X5_sinsOf G v0 v1 Q S) : MT yX5_sinsOf cX5_sinsOf 4 (some .int) rm_X5_sinsOf 0 0 (fun b => [.ref (b + v0), .int v1]) G S (QI (fun r G1 S1 => G1 = G ∧ Q r S1)) := MT.ofJ (by decide +kernel) (fun b => [(0, .ref (b + v0)), (1, .int v1)]) (fun b => rfl) (fun b => Nat.le_of_ble_eq_true rfl) (fun l b D cy p e s m below meth c C hE hn => j_X5_sinsOf C hE t_v0 h)
theorem hd_X5_sinsOf : yX5_sinsOf.cls ≠ "java/lang/invoke/MethodHandle" ∧ yX5_sinsOf.cls ≠ "java/lang/invoke/VarHandle" ∧ (parseMethodDescriptor yX5_sinsOf.desc).map (fun d => d.parameters.length) = some 1 := by decide +kernel
abbrev rm_X3_litCells : Room := { frames := 0, cells := 0, slots := 0, locals := 0 }
set_option maxHeartbeats 4000000 in
set_option maxRecDepth 100000 in
theorem j_X3_litCells_4_n {p : Program} {l : Launch} {e : Env} {s : State} {m : MethodId} {args : Array Value} {below : List Frame} {meth : Method} {c : Code} {b : Nat} {D : va_G} {cy : Nat → ClassId} {G : Gm} {v0 : Int32} {Q : Int32 → St → Prop} (C : CX p s m args meth c b D cy cX3_litCells RX3 3 (some .int)) (hE : s.heap.size + 0 ≤ b + G.2.2) : ∀ k (v1 : Int32) (v2 : Int32) S, f_X3_litCells_4_n G v0 Q k v1 v2 S → J p l e rm_X3_litCells s m args below meth c b D cy 3 (zI b D cy below args s G Q) 0 0 G S 4 [(0, .int v0), (1, .int v1), (2, .int v2)] [] := by
  intro k
  induction k with
  | zero => intro v1 v2 S h; exact h.elim
  | succ k ih =>
    intro v1 v2 S h
    unfold f_X3_litCells_4_n at h
    refine jB C [(.iload_n 2, 1, 0), (.bipush 8, 2, 8)] 7 [(0, .int v0), (1, .int v1), (2, .int v2)] [.int 8, .int v2] (by decide +kernel) rfl rfl ?_
    refine jIcmp_ge C 10 24 (by decide +kernel : decode cX3_litCells 7 = .ok (.if_icmp .ge 17, 3)) rfl rfl (fun c1 => ?_) (fun c1 => ?_)
    · have h := it1 h c1
      refine jB C [(.iload_n 1, 1, 0)] 25 [(0, .int v0), (1, .int v1), (2, .int v2)] [.int v1] (by decide +kernel) rfl rfl ?_
      exact jRetI C (by decide +kernel : decode cX3_litCells 25 = .ok (.ireturn, 1)) (Nat.le_refl _) (Nat.le_refl _) ⟨rfl, h⟩
    · have h := it2 h c1
      refine jB C [(.iload_n 1, 1, 0), (.iload_n 0, 1, 0), (.iload_n 2, 1, 0), (.ishr, 1, 0), (.iconst 1, 1, 1), (.iand, 1, 0), (.iadd, 1, 0)] 17 [(0, .int v0), (1, .int v1), (2, .int v2)] [.int (v1 + ((v0 >>> ((v2 : Int32) &&& 31)) &&& 1))] (by decide +kernel) rfl rfl ?_
      refine jTopI (fun x2 e_x2 => ?_)
      have h := h x2 e_x2
      refine jB C [(.istore_n 1, 1, 0), (.iinc 2 1, 3, 1)] 21 [(2, .int (v2 + 1)), (1, .int x2), (0, .int v0)] [] (by decide +kernel) rfl rfl ?_
      refine jGoto C 4 (by decide +kernel : decode cX3_litCells 21 = .ok (.goto (-17), 3)) rfl ?_
      refine jSub [2, 1, 0] rfl ?_
      exact ih x2 (v2 + 1) S h
theorem j_X3_litCells_4 {p : Program} {l : Launch} {e : Env} {s : State} {m : MethodId} {args : Array Value} {below : List Frame} {meth : Method} {c : Code} {b : Nat} {D : va_G} {cy : Nat → ClassId} {G : Gm} {v0 : Int32} {v1 : Int32} {v2 : Int32} {S : St} {Q : Int32 → St → Prop} (C : CX p s m args meth c b D cy cX3_litCells RX3 3 (some .int)) (hE : s.heap.size + 0 ≤ b + G.2.2) (h : f_X3_litCells_4 G v0 Q v1 v2 S) : J p l e rm_X3_litCells s m args below meth c b D cy 3 (zI b D cy below args s G Q) 0 0 G S 4 [(0, .int v0), (1, .int v1), (2, .int v2)] [] := by
  obtain ⟨k, h⟩ := h
  exact j_X3_litCells_4_n C hE k v1 v2 S h
set_option maxHeartbeats 4000000 in
set_option maxRecDepth 100000 in
theorem j_X3_litCells {p : Program} {l : Launch} {e : Env} {s : State} {m : MethodId} {args : Array Value} {below : List Frame} {meth : Method} {c : Code} {b : Nat} {D : va_G} {cy : Nat → ClassId} {G : Gm} {v0 : Int32} {S : St} {Q : Int32 → St → Prop} (C : CX p s m args meth c b D cy cX3_litCells RX3 3 (some .int)) (hE : s.heap.size + 0 ≤ b + G.2.2) (h : f_X3_litCells G v0 Q S) : J p l e rm_X3_litCells s m args below meth c b D cy 3 (zI b D cy below args s G Q) 0 0 G S 0 [(0, .int v0)] [] := by
  unfold f_X3_litCells at h
  refine jB C [(.iconst 0, 1, 0), (.istore_n 1, 1, 0), (.iconst 0, 1, 0), (.istore_n 2, 1, 0)] 4 [(2, .int 0), (1, .int 0), (0, .int v0)] [] (by decide +kernel) rfl rfl ?_
  refine jSub [2, 1, 0] rfl ?_
  exact j_X3_litCells_4 C hE h
theorem ok_X3_litCells {G : Gm} {v0 : Int32} {S : St} {Q : Int32 → St → Prop}  (h : f_X3_litCells G v0 Q S) : MT yX3_litCells cX3_litCells 3 (some .int) rm_X3_litCells 0 0 (fun b => [.int v0]) G S (QI (fun r G1 S1 => G1 = G ∧ Q r S1)) := MT.ofJ (by decide +kernel) (fun b => [(0, .int v0)]) (fun b => rfl) (fun b => Nat.le_of_ble_eq_true rfl) (fun l b D cy p e s m below meth c C hE hn => j_X3_litCells C hE h)
theorem hd_X3_litCells : yX3_litCells.cls ≠ "java/lang/invoke/MethodHandle" ∧ yX3_litCells.cls ≠ "java/lang/invoke/VarHandle" ∧ (parseMethodDescriptor yX3_litCells.desc).map (fun d => d.parameters.length) = some 1 := by decide +kernel
abbrev rm_X3_lowestLit : Room := { frames := 0, cells := 0, slots := 0, locals := 0 }
set_option maxHeartbeats 4000000 in
set_option maxRecDepth 100000 in
theorem j_X3_lowestLit_2_n {p : Program} {l : Launch} {e : Env} {s : State} {m : MethodId} {args : Array Value} {below : List Frame} {meth : Method} {c : Code} {b : Nat} {D : va_G} {cy : Nat → ClassId} {G : Gm} {v0 : Int32} {Q : Int32 → St → Prop} (C : CX p s m args meth c b D cy cX3_lowestLit RX3 2 (some .int)) (hE : s.heap.size + 0 ≤ b + G.2.2) : ∀ k (v1 : Int32) S, f_X3_lowestLit_2_n G v0 Q k v1 S → J p l e rm_X3_lowestLit s m args below meth c b D cy 2 (zI b D cy below args s G Q) 0 0 G S 2 [(0, .int v0), (1, .int v1)] [] := by
  intro k
  induction k with
  | zero => intro v1 S h; exact h.elim
  | succ k ih =>
    intro v1 S h
    unfold f_X3_lowestLit_2_n at h
    refine jB C [(.iload_n 1, 1, 0), (.bipush 8, 2, 8)] 5 [(0, .int v0), (1, .int v1)] [.int 8, .int v1] (by decide +kernel) rfl rfl ?_
    refine jIcmp_ge C 8 25 (by decide +kernel : decode cX3_lowestLit 5 = .ok (.if_icmp .ge 20, 3)) rfl rfl (fun c1 => ?_) (fun c1 => ?_)
    · have h := it1 h c1
      refine jB C [(.bipush 8, 2, 8)] 27 [(0, .int v0), (1, .int v1)] [.int 8] (by decide +kernel) rfl rfl ?_
      exact jRetI C (by decide +kernel : decode cX3_lowestLit 27 = .ok (.ireturn, 1)) (Nat.le_refl _) (Nat.le_refl _) ⟨rfl, h⟩
    · have h := it2 h c1
      refine jB C [(.iload_n 0, 1, 0), (.iload_n 1, 1, 0), (.ishr, 1, 0), (.iconst 1, 1, 1), (.iand, 1, 0), (.iconst 1, 1, 1)] 14 [(0, .int v0), (1, .int v1)] [.int 1, .int ((v0 >>> ((v1 : Int32) &&& 31)) &&& 1)] (by decide +kernel) rfl rfl ?_
      refine jIcmp_ne C 17 19 (by decide +kernel : decode cX3_lowestLit 14 = .ok (.if_icmp .ne 5, 3)) rfl rfl (fun c2 => ?_) (fun c2 => ?_)
      · have h := it2 h c2
        refine jB C [(.iinc 1 1, 3, 1)] 22 [(1, .int (v1 + 1)), (0, .int v0)] [] (by decide +kernel) rfl rfl ?_
        refine jGoto C 2 (by decide +kernel : decode cX3_lowestLit 22 = .ok (.goto (-20), 3)) rfl ?_
        refine jSub [1, 0] rfl ?_
        exact ih (v1 + 1) S h
      · have h := it1 h c2
        refine jB C [(.iload_n 1, 1, 0)] 18 [(0, .int v0), (1, .int v1)] [.int v1] (by decide +kernel) rfl rfl ?_
        exact jRetI C (by decide +kernel : decode cX3_lowestLit 18 = .ok (.ireturn, 1)) (Nat.le_refl _) (Nat.le_refl _) ⟨rfl, h⟩
theorem j_X3_lowestLit_2 {p : Program} {l : Launch} {e : Env} {s : State} {m : MethodId} {args : Array Value} {below : List Frame} {meth : Method} {c : Code} {b : Nat} {D : va_G} {cy : Nat → ClassId} {G : Gm} {v0 : Int32} {v1 : Int32} {S : St} {Q : Int32 → St → Prop} (C : CX p s m args meth c b D cy cX3_lowestLit RX3 2 (some .int)) (hE : s.heap.size + 0 ≤ b + G.2.2) (h : f_X3_lowestLit_2 G v0 Q v1 S) : J p l e rm_X3_lowestLit s m args below meth c b D cy 2 (zI b D cy below args s G Q) 0 0 G S 2 [(0, .int v0), (1, .int v1)] [] := by
  obtain ⟨k, h⟩ := h
  exact j_X3_lowestLit_2_n C hE k v1 S h
set_option maxHeartbeats 4000000 in
set_option maxRecDepth 100000 in
theorem j_X3_lowestLit {p : Program} {l : Launch} {e : Env} {s : State} {m : MethodId} {args : Array Value} {below : List Frame} {meth : Method} {c : Code} {b : Nat} {D : va_G} {cy : Nat → ClassId} {G : Gm} {v0 : Int32} {S : St} {Q : Int32 → St → Prop} (C : CX p s m args meth c b D cy cX3_lowestLit RX3 2 (some .int)) (hE : s.heap.size + 0 ≤ b + G.2.2) (h : f_X3_lowestLit G v0 Q S) : J p l e rm_X3_lowestLit s m args below meth c b D cy 2 (zI b D cy below args s G Q) 0 0 G S 0 [(0, .int v0)] [] := by
  unfold f_X3_lowestLit at h
  refine jB C [(.iconst 0, 1, 0), (.istore_n 1, 1, 0)] 2 [(1, .int 0), (0, .int v0)] [] (by decide +kernel) rfl rfl ?_
  refine jSub [1, 0] rfl ?_
  exact j_X3_lowestLit_2 C hE h
theorem ok_X3_lowestLit {G : Gm} {v0 : Int32} {S : St} {Q : Int32 → St → Prop}  (h : f_X3_lowestLit G v0 Q S) : MT yX3_lowestLit cX3_lowestLit 2 (some .int) rm_X3_lowestLit 0 0 (fun b => [.int v0]) G S (QI (fun r G1 S1 => G1 = G ∧ Q r S1)) := MT.ofJ (by decide +kernel) (fun b => [(0, .int v0)]) (fun b => rfl) (fun b => Nat.le_of_ble_eq_true rfl) (fun l b D cy p e s m below meth c C hE hn => j_X3_lowestLit C hE h)
theorem hd_X3_lowestLit : yX3_lowestLit.cls ≠ "java/lang/invoke/MethodHandle" ∧ yX3_lowestLit.cls ≠ "java/lang/invoke/VarHandle" ∧ (parseMethodDescriptor yX3_lowestLit.desc).map (fun d => d.parameters.length) = some 1 := by decide +kernel
abbrev rm_X2_aboutPerson : Room := { frames := 2, cells := 0, slots := 0, locals := 44 }
set_option maxHeartbeats 4000000 in
set_option maxRecDepth 100000 in
theorem j_X2_aboutPerson {p : Program} {l : Launch} {e : Env} {s : State} {m : MethodId} {args : Array Value} {below : List Frame} {meth : Method} {c : Code} {b : Nat} {D : va_G} {cy : Nat → ClassId} {G : Gm} {v0 : Nat} {v1 : Nat} {v2 : Int32} {v3 : Int32} {S : St} {Q : St → Prop} (C : CX p s m args meth c b D cy cX2_aboutPerson RX2 4 none) (hE : s.heap.size + 0 ≤ b + G.2.2) (t_v0 : ok G 2 v0) (t_v1 : ok G 4 v1) (h : f_X2_aboutPerson G v0 v1 v2 v3 Q S) : J p l e rm_X2_aboutPerson s m args below meth c b D cy 4 (zV b D cy below args s G Q) 0 0 G S 0 [(0, .ref (b + v0)), (1, .ref (b + v1)), (2, .int v2), (3, .int v3)] [] := by
  unfold f_X2_aboutPerson at h
  refine jB C [(.aload_n 0, 1, 0)] 1 [(0, .ref (b + v0)), (1, .ref (b + v1)), (2, .int v2), (3, .int v3)] [.ref (b + v0)] (by decide +kernel) rfl rfl ?_
  obtain ⟨a1, e_a1, h⟩ := h
  refine jGetR C 4 (by decide +kernel : decode cX2_aboutPerson 1 = .ok (.getfield 9, 3)) rfl t_v0 kX2 0 (by decide) rfl rfl (by decide) wd_117 e_a1 rfl (fun t_a1 => ?_)
  refine jB C [(.iconst 0, 1, 0), (.iload_n 2, 1, 0)] 6 [(0, .ref (b + v0)), (1, .ref (b + v1)), (2, .int v2), (3, .int v3)] [.int v2, .int 0, .ref (b + a1)] (by decide +kernel) rfl rfl ?_
  obtain ⟨y2, h⟩ := h
  refine jIast C 7 (by decide +kernel : decode cX2_aboutPerson 6 = .ok (.iastore, 1)) rfl hE t_a1 y2 ?_
  refine jTopS (fun S3 e_S3 => ?_)
  have h := h S3 e_S3
  refine jB C [(.aload_n 0, 1, 0)] 8 [(0, .ref (b + v0)), (1, .ref (b + v1)), (2, .int v2), (3, .int v3)] [.ref (b + v0)] (by decide +kernel) rfl rfl ?_
  obtain ⟨a4, e_a4, h⟩ := h
  refine jGetR C 11 (by decide +kernel : decode cX2_aboutPerson 8 = .ok (.getfield 9, 3)) rfl t_v0 kX2 0 (by decide) rfl rfl (by decide) wd_117 e_a4 rfl (fun t_a4 => ?_)
  refine jB C [(.iconst 1, 1, 1), (.iconst (-1), 1, (-1))] 13 [(0, .ref (b + v0)), (1, .ref (b + v1)), (2, .int v2), (3, .int v3)] [.int (-1), .int 1, .ref (b + a4)] (by decide +kernel) rfl rfl ?_
  obtain ⟨y5, h⟩ := h
  refine jIast C 14 (by decide +kernel : decode cX2_aboutPerson 13 = .ok (.iastore, 1)) rfl hE t_a4 y5 ?_
  refine jTopS (fun S6 e_S6 => ?_)
  have h := h S6 e_S6
  refine jB C [(.aload_n 0, 1, 0)] 15 [(0, .ref (b + v0)), (1, .ref (b + v1)), (2, .int v2), (3, .int v3)] [.ref (b + v0)] (by decide +kernel) rfl rfl ?_
  obtain ⟨a7, e_a7, h⟩ := h
  refine jGetR C 18 (by decide +kernel : decode cX2_aboutPerson 15 = .ok (.getfield 9, 3)) rfl t_v0 kX2 0 (by decide) rfl rfl (by decide) wd_117 e_a7 rfl (fun t_a7 => ?_)
  refine jB C [(.iconst 2, 1, 2), (.iconst (-1), 1, (-1))] 20 [(0, .ref (b + v0)), (1, .ref (b + v1)), (2, .int v2), (3, .int v3)] [.int (-1), .int 2, .ref (b + a7)] (by decide +kernel) rfl rfl ?_
  obtain ⟨y8, h⟩ := h
  refine jIast C 21 (by decide +kernel : decode cX2_aboutPerson 20 = .ok (.iastore, 1)) rfl hE t_a7 y8 ?_
  refine jTopS (fun S9 e_S9 => ?_)
  have h := h S9 e_S9
  refine jB C [(.aload_n 0, 1, 0)] 22 [(0, .ref (b + v0)), (1, .ref (b + v1)), (2, .int v2), (3, .int v3)] [.ref (b + v0)] (by decide +kernel) rfl rfl ?_
  obtain ⟨a10, e_a10, h⟩ := h
  refine jGetR C 25 (by decide +kernel : decode cX2_aboutPerson 22 = .ok (.getfield 9, 3)) rfl t_v0 kX2 0 (by decide) rfl rfl (by decide) wd_117 e_a10 rfl (fun t_a10 => ?_)
  refine jB C [(.iconst 3, 1, 3), (.aload_n 1, 1, 0), (.iload_n 2, 1, 0)] 28 [(0, .ref (b + v0)), (1, .ref (b + v1)), (2, .int v2), (3, .int v3)] [.int v2, .ref (b + v1), .int 3, .ref (b + a10)] (by decide +kernel) rfl rfl ?_
  refine jcVN_I C 31 (rest := [.int 3, .ref (b + a10)]) (ok_X5_sinsOf t_v1 h) (by decide +kernel : decode cX2_aboutPerson 28 = .ok (.invokevirtual 61, 3)) rfl wn_434 wd_436 wp_14 wd_2 wd_437 ⟨rfl, rfl⟩ hd_X5_sinsOf ⟨Nat.le_of_ble_eq_true rfl, Nat.le_of_ble_eq_true rfl⟩ t_v1 kX5 (by decide) rfl rfl rfl (Nat.le_of_ble_eq_true rfl) ⟨Nat.zero_le _, Nat.zero_le _⟩ (fun r12 S11 h => ?_)
  obtain ⟨y13, h⟩ := h
  refine jIast C 32 (by decide +kernel : decode cX2_aboutPerson 31 = .ok (.iastore, 1)) rfl hE t_a10 y13 ?_
  refine jTopS (fun S14 e_S14 => ?_)
  have h := h S14 e_S14
  refine jB C [(.aload_n 0, 1, 0)] 33 [(0, .ref (b + v0)), (1, .ref (b + v1)), (2, .int v2), (3, .int v3)] [.ref (b + v0)] (by decide +kernel) rfl rfl ?_
  obtain ⟨a15, e_a15, h⟩ := h
  refine jGetR C 36 (by decide +kernel : decode cX2_aboutPerson 33 = .ok (.getfield 9, 3)) rfl t_v0 kX2 0 (by decide) rfl rfl (by decide) wd_117 e_a15 rfl (fun t_a15 => ?_)
  refine jB C [(.iconst 4, 1, 4), (.iload_n 3, 1, 0)] 38 [(0, .ref (b + v0)), (1, .ref (b + v1)), (2, .int v2), (3, .int v3)] [.int v3, .int 4, .ref (b + a15)] (by decide +kernel) rfl rfl ?_
  obtain ⟨y16, h⟩ := h
  refine jIast C 39 (by decide +kernel : decode cX2_aboutPerson 38 = .ok (.iastore, 1)) rfl hE t_a15 y16 ?_
  refine jTopS (fun S17 e_S17 => ?_)
  have h := h S17 e_S17
  refine jB C [(.aload_n 0, 1, 0)] 40 [(0, .ref (b + v0)), (1, .ref (b + v1)), (2, .int v2), (3, .int v3)] [.ref (b + v0)] (by decide +kernel) rfl rfl ?_
  obtain ⟨a18, e_a18, h⟩ := h
  refine jGetR C 43 (by decide +kernel : decode cX2_aboutPerson 40 = .ok (.getfield 9, 3)) rfl t_v0 kX2 0 (by decide) rfl rfl (by decide) wd_117 e_a18 rfl (fun t_a18 => ?_)
  refine jB C [(.iconst 5, 1, 5), (.iload_n 3, 1, 0)] 45 [(0, .ref (b + v0)), (1, .ref (b + v1)), (2, .int v2), (3, .int v3)] [.int v3, .int 5, .ref (b + a18)] (by decide +kernel) rfl rfl ?_
  refine jcSN_I C 48 (rest := [.int 5, .ref (b + a18)]) (ok_X3_litCells h) (by decide +kernel : decode cX2_aboutPerson 45 = .ok (.invokestatic 48, 3)) rfl wn_438 wd_439 wd_13 wd_440 ⟨rfl, rfl⟩ hd_X3_litCells ⟨Nat.le_of_ble_eq_true rfl, Nat.le_of_ble_eq_true rfl⟩ rfl rfl (Nat.le_of_ble_eq_true rfl) ⟨Nat.zero_le _, Nat.zero_le _⟩ (fun r20 S19 h => ?_)
  obtain ⟨y21, h⟩ := h
  refine jIast C 49 (by decide +kernel : decode cX2_aboutPerson 48 = .ok (.iastore, 1)) rfl hE t_a18 y21 ?_
  refine jTopS (fun S22 e_S22 => ?_)
  have h := h S22 e_S22
  refine jB C [(.aload_n 0, 1, 0)] 50 [(0, .ref (b + v0)), (1, .ref (b + v1)), (2, .int v2), (3, .int v3)] [.ref (b + v0)] (by decide +kernel) rfl rfl ?_
  obtain ⟨a23, e_a23, h⟩ := h
  refine jGetR C 53 (by decide +kernel : decode cX2_aboutPerson 50 = .ok (.getfield 9, 3)) rfl t_v0 kX2 0 (by decide) rfl rfl (by decide) wd_117 e_a23 rfl (fun t_a23 => ?_)
  refine jB C [(.bipush 6, 2, 6), (.iload_n 3, 1, 0)] 56 [(0, .ref (b + v0)), (1, .ref (b + v1)), (2, .int v2), (3, .int v3)] [.int v3, .int 6, .ref (b + a23)] (by decide +kernel) rfl rfl ?_
  refine jcSN_I C 59 (rest := [.int 6, .ref (b + a23)]) (ok_X3_lowestLit h) (by decide +kernel : decode cX2_aboutPerson 56 = .ok (.invokestatic 67, 3)) rfl wn_441 wd_442 wd_13 wd_443 ⟨rfl, rfl⟩ hd_X3_lowestLit ⟨Nat.le_of_ble_eq_true rfl, Nat.le_of_ble_eq_true rfl⟩ rfl rfl (Nat.le_of_ble_eq_true rfl) ⟨Nat.zero_le _, Nat.zero_le _⟩ (fun r25 S24 h => ?_)
  obtain ⟨y26, h⟩ := h
  refine jIast C 60 (by decide +kernel : decode cX2_aboutPerson 59 = .ok (.iastore, 1)) rfl hE t_a23 y26 ?_
  refine jTopS (fun S27 e_S27 => ?_)
  have h := h S27 e_S27
  refine jB C [(.aload_n 0, 1, 0)] 61 [(0, .ref (b + v0)), (1, .ref (b + v1)), (2, .int v2), (3, .int v3)] [.ref (b + v0)] (by decide +kernel) rfl rfl ?_
  obtain ⟨a28, e_a28, h⟩ := h
  refine jGetR C 64 (by decide +kernel : decode cX2_aboutPerson 61 = .ok (.getfield 9, 3)) rfl t_v0 kX2 0 (by decide) rfl rfl (by decide) wd_117 e_a28 rfl (fun t_a28 => ?_)
  refine jB C [(.bipush 7, 2, 7), (.aload_n 1, 1, 0), (.iconst 0, 1, 0)] 68 [(0, .ref (b + v0)), (1, .ref (b + v1)), (2, .int v2), (3, .int v3)] [.int 0, .ref (b + v1), .int 7, .ref (b + a28)] (by decide +kernel) rfl rfl ?_
  refine jcVN_I C 71 (rest := [.int 7, .ref (b + a28)]) (ok_X5_termOf t_v1 h) (by decide +kernel : decode cX2_aboutPerson 68 = .ok (.invokevirtual 64, 3)) rfl wn_444 wd_418 wp_11 wd_2 wd_419 ⟨rfl, rfl⟩ hd_X5_termOf ⟨Nat.le_of_ble_eq_true rfl, Nat.le_of_ble_eq_true rfl⟩ t_v1 kX5 (by decide) rfl rfl rfl (Nat.le_of_ble_eq_true rfl) ⟨Nat.zero_le _, Nat.zero_le _⟩ (fun r30 S29 h => ?_)
  obtain ⟨y31, h⟩ := h
  refine jIast C 72 (by decide +kernel : decode cX2_aboutPerson 71 = .ok (.iastore, 1)) rfl hE t_a28 y31 ?_
  refine jTopS (fun S32 e_S32 => ?_)
  have h := h S32 e_S32
  refine jB C [(.aload_n 0, 1, 0)] 73 [(0, .ref (b + v0)), (1, .ref (b + v1)), (2, .int v2), (3, .int v3)] [.ref (b + v0)] (by decide +kernel) rfl rfl ?_
  obtain ⟨a33, e_a33, h⟩ := h
  refine jGetR C 76 (by decide +kernel : decode cX2_aboutPerson 73 = .ok (.getfield 9, 3)) rfl t_v0 kX2 0 (by decide) rfl rfl (by decide) wd_117 e_a33 rfl (fun t_a33 => ?_)
  refine jB C [(.bipush 8, 2, 8), (.aload_n 1, 1, 0), (.iconst 2, 1, 2)] 80 [(0, .ref (b + v0)), (1, .ref (b + v1)), (2, .int v2), (3, .int v3)] [.int 2, .ref (b + v1), .int 8, .ref (b + a33)] (by decide +kernel) rfl rfl ?_
  refine jcVN_I C 83 (rest := [.int 8, .ref (b + a33)]) (ok_X5_termOf t_v1 h) (by decide +kernel : decode cX2_aboutPerson 80 = .ok (.invokevirtual 64, 3)) rfl wn_444 wd_418 wp_11 wd_2 wd_419 ⟨rfl, rfl⟩ hd_X5_termOf ⟨Nat.le_of_ble_eq_true rfl, Nat.le_of_ble_eq_true rfl⟩ t_v1 kX5 (by decide) rfl rfl rfl (Nat.le_of_ble_eq_true rfl) ⟨Nat.zero_le _, Nat.zero_le _⟩ (fun r35 S34 h => ?_)
  obtain ⟨y36, h⟩ := h
  refine jIast C 84 (by decide +kernel : decode cX2_aboutPerson 83 = .ok (.iastore, 1)) rfl hE t_a33 y36 ?_
  refine jTopS (fun S37 e_S37 => ?_)
  have h := h S37 e_S37
  exact jRetV C (by decide +kernel : decode cX2_aboutPerson 84 = .ok (.return_, 1)) (Nat.le_refl _) (Nat.le_refl _) ⟨rfl, h⟩
theorem ok_X2_aboutPerson {G : Gm} {v0 : Nat} {v1 : Nat} {v2 : Int32} {v3 : Int32} {S : St} {Q : St → Prop}  (t_v0 : ok G 2 v0) (t_v1 : ok G 4 v1) (h : f_X2_aboutPerson G v0 v1 v2 v3 Q S) : MT yX2_aboutPerson cX2_aboutPerson 4 none rm_X2_aboutPerson 0 0 (fun b => [.ref (b + v0), .ref (b + v1), .int v2, .int v3]) G S (QV (fun G1 S1 => G1 = G ∧ Q S1)) := MT.ofJ (by decide +kernel) (fun b => [(0, .ref (b + v0)), (1, .ref (b + v1)), (2, .int v2), (3, .int v3)]) (fun b => rfl) (fun b => Nat.le_of_ble_eq_true rfl) (fun l b D cy p e s m below meth c C hE hn => j_X2_aboutPerson C hE t_v0 t_v1 h)
theorem hd_X2_aboutPerson : yX2_aboutPerson.cls ≠ "java/lang/invoke/MethodHandle" ∧ yX2_aboutPerson.cls ≠ "java/lang/invoke/VarHandle" ∧ (parseMethodDescriptor yX2_aboutPerson.desc).map (fun d => d.parameters.length) = some 3 := by decide +kernel
abbrev rm_X5_hasLaw : Room := { frames := 0, cells := 0, slots := 0, locals := 0 }
set_option maxHeartbeats 4000000 in
set_option maxRecDepth 100000 in
theorem j_X5_hasLaw {p : Program} {l : Launch} {e : Env} {s : State} {m : MethodId} {args : Array Value} {below : List Frame} {meth : Method} {c : Code} {b : Nat} {D : va_G} {cy : Nat → ClassId} {G : Gm} {v0 : Nat} {v1 : Int32} {S : St} {Q : Int32 → St → Prop} (C : CX p s m args meth c b D cy cX5_hasLaw RX5 2 (some .boolean)) (hE : s.heap.size + 0 ≤ b + G.2.2) (t_v0 : ok G 4 v0) (h : f_X5_hasLaw G v0 v1 Q S) : J p l e rm_X5_hasLaw s m args below meth c b D cy 2 (zI b D cy below args s G Q) 0 0 G S 0 [(0, .ref (b + v0)), (1, .int v1)] [] := by
  unfold f_X5_hasLaw at h
  refine jB C [(.iload_n 1, 1, 0)] 1 [(0, .ref (b + v0)), (1, .int v1)] [.int v1] (by decide +kernel) rfl rfl ?_
  refine jIf_lt C 4 22 (by decide +kernel : decode cX5_hasLaw 1 = .ok (.ifCond .lt 21, 3)) rfl rfl (fun c1 => ?_) (fun c1 => ?_)
  · have h := it1 h c1
    refine jB C [(.iconst 0, 1, 0)] 23 [(0, .ref (b + v0)), (1, .int v1)] [.int 0] (by decide +kernel) rfl rfl ?_
    exact jRetZ C (by decide +kernel : decode cX5_hasLaw 23 = .ok (.ireturn, 1)) (Nat.le_refl _) (Nat.le_refl _) (by decide) ⟨rfl, h⟩
  · have h := it2 h c1
    refine jB C [(.iload_n 1, 1, 0), (.aload_n 0, 1, 0)] 6 [(0, .ref (b + v0)), (1, .int v1)] [.ref (b + v0), .int v1] (by decide +kernel) rfl rfl ?_
    refine jGetI C 9 (by decide +kernel : decode cX5_hasLaw 6 = .ok (.getfield 52, 3)) rfl t_v0 kX5 8 (by decide) rfl rfl (by decide) wd_53 ?_
    refine jIcmp_ge C 12 22 (by decide +kernel : decode cX5_hasLaw 9 = .ok (.if_icmp .ge 13, 3)) rfl rfl (fun c2 => ?_) (fun c2 => ?_)
    · have h := it1 h c2
      refine jB C [(.iconst 0, 1, 0)] 23 [(0, .ref (b + v0)), (1, .int v1)] [.int 0] (by decide +kernel) rfl rfl ?_
      exact jRetZ C (by decide +kernel : decode cX5_hasLaw 23 = .ok (.ireturn, 1)) (Nat.le_refl _) (Nat.le_refl _) (by decide) ⟨rfl, h⟩
    · have h := it2 h c2
      refine jB C [(.iload_n 1, 1, 0), (.bipush 6, 2, 6)] 15 [(0, .ref (b + v0)), (1, .int v1)] [.int 6, .int v1] (by decide +kernel) rfl rfl ?_
      refine jIcmp_ge C 18 22 (by decide +kernel : decode cX5_hasLaw 15 = .ok (.if_icmp .ge 7, 3)) rfl rfl (fun c3 => ?_) (fun c3 => ?_)
      · have h := it1 h c3
        refine jB C [(.iconst 0, 1, 0)] 23 [(0, .ref (b + v0)), (1, .int v1)] [.int 0] (by decide +kernel) rfl rfl ?_
        exact jRetZ C (by decide +kernel : decode cX5_hasLaw 23 = .ok (.ireturn, 1)) (Nat.le_refl _) (Nat.le_refl _) (by decide) ⟨rfl, h⟩
      · have h := it2 h c3
        refine jB C [(.iconst 1, 1, 1)] 19 [(0, .ref (b + v0)), (1, .int v1)] [.int 1] (by decide +kernel) rfl rfl ?_
        refine jGoto C 23 (by decide +kernel : decode cX5_hasLaw 19 = .ok (.goto 4, 3)) rfl ?_
        exact jRetZ C (by decide +kernel : decode cX5_hasLaw 23 = .ok (.ireturn, 1)) (Nat.le_refl _) (Nat.le_refl _) (by decide) ⟨rfl, h⟩
theorem ok_X5_hasLaw {G : Gm} {v0 : Nat} {v1 : Int32} {S : St} {Q : Int32 → St → Prop}  (t_v0 : ok G 4 v0) (h : f_X5_hasLaw G v0 v1 Q S) : MT yX5_hasLaw cX5_hasLaw 2 (some .boolean) rm_X5_hasLaw 0 0 (fun b => [.ref (b + v0), .int v1]) G S (QI (fun r G1 S1 => G1 = G ∧ Q r S1)) := MT.ofJ (by decide +kernel) (fun b => [(0, .ref (b + v0)), (1, .int v1)]) (fun b => rfl) (fun b => Nat.le_of_ble_eq_true rfl) (fun l b D cy p e s m below meth c C hE hn => j_X5_hasLaw C hE t_v0 h)
theorem hd_X5_hasLaw : yX5_hasLaw.cls ≠ "java/lang/invoke/MethodHandle" ∧ yX5_hasLaw.cls ≠ "java/lang/invoke/VarHandle" ∧ (parseMethodDescriptor yX5_hasLaw.desc).map (fun d => d.parameters.length) = some 1 := by decide +kernel
abbrev rm_X5_lawAt : Room := { frames := 1, cells := 0, slots := 0, locals := 21 }
set_option maxHeartbeats 4000000 in
set_option maxRecDepth 100000 in
theorem j_X5_lawAt {p : Program} {l : Launch} {e : Env} {s : State} {m : MethodId} {args : Array Value} {below : List Frame} {meth : Method} {c : Code} {b : Nat} {D : va_G} {cy : Nat → ClassId} {G : Gm} {v0 : Nat} {v1 : Int32} {S : St} {Q : Option Nat → St → Prop} (C : CX p s m args meth c b D cy cX5_lawAt RX5 2 (some (.object "SinLenses$Text"))) (hE : s.heap.size + 0 ≤ b + G.2.2) (t_v0 : ok G 4 v0) (h : f_X5_lawAt G v0 v1 Q S) : J p l e rm_X5_lawAt s m args below meth c b D cy 2 (zO b D cy below args s G Q) 0 0 G S 0 [(0, .ref (b + v0)), (1, .int v1)] [] := by
  unfold f_X5_lawAt at h
  refine jB C [(.aload_n 0, 1, 0), (.iload_n 1, 1, 0)] 2 [(0, .ref (b + v0)), (1, .int v1)] [.int v1, .ref (b + v0)] (by decide +kernel) rfl rfl ?_
  refine jcV_I C 5 (rest := []) (ok_X5_hasLaw t_v0 h) (by decide +kernel : decode cX5_lawAt 2 = .ok (.invokevirtual 93, 3)) rfl wd_453 wd_455 wp_17 wd_2 wd_456 ⟨rfl, rfl⟩ hd_X5_hasLaw ⟨Nat.le_of_ble_eq_true rfl, Nat.le_of_ble_eq_true rfl⟩ t_v0 kX5 (by decide) rfl rfl rfl (Nat.le_of_ble_eq_true rfl) ⟨Nat.zero_le _, Nat.zero_le _⟩ (fun r2 S1 h => ?_)
  refine jIf_eq C 8 17 (by decide +kernel : decode cX5_lawAt 5 = .ok (.ifCond .eq 12, 3)) rfl rfl (fun c3 => ?_) (fun c3 => ?_)
  · have h := it1 h c3
    refine jNull C 18 (by decide +kernel : decode cX5_lawAt 17 = .ok (.aconst_null, 1)) rfl ?_
    exact jRetO C (r := none) (by decide +kernel : decode cX5_lawAt 18 = .ok (.areturn, 1)) (Nat.le_refl _) (Nat.le_refl _) ⟨rfl, h⟩
  · have h := it2 h c3
    refine jB C [(.aload_n 0, 1, 0)] 9 [(0, .ref (b + v0)), (1, .int v1)] [.ref (b + v0)] (by decide +kernel) rfl rfl ?_
    obtain ⟨a4, e_a4, h⟩ := h
    refine jGetR C 12 (by decide +kernel : decode cX5_lawAt 9 = .ok (.getfield 32, 3)) rfl t_v0 kX5 9 (by decide) rfl rfl (by decide) wd_55 e_a4 rfl (fun t_a4 => ?_)
    refine jB C [(.iload_n 1, 1, 0)] 13 [(0, .ref (b + v0)), (1, .int v1)] [.int v1, .ref (b + a4)] (by decide +kernel) rfl rfl ?_
    obtain ⟨y5, h⟩ := h
    refine jAald15 C 14 (by decide +kernel : decode cX5_lawAt 13 = .ok (.aaload, 1)) rfl t_a4 y5 (fun t6 => ?_)
    refine jTopQ (fun r7 e_r7 => ?_)
    rw [← e_r7] at t6
    have h := h r7 e_r7
    refine jGoto C 18 (by decide +kernel : decode cX5_lawAt 14 = .ok (.goto 4, 3)) rfl ?_
    exact jRetO C (r := r7) (by decide +kernel : decode cX5_lawAt 18 = .ok (.areturn, 1)) (Nat.le_refl _) (Nat.le_refl _) ⟨rfl, h⟩
theorem ok_X5_lawAt {G : Gm} {v0 : Nat} {v1 : Int32} {S : St} {Q : Option Nat → St → Prop}  (t_v0 : ok G 4 v0) (h : f_X5_lawAt G v0 v1 Q S) : MT yX5_lawAt cX5_lawAt 2 (some (.object "SinLenses$Text")) rm_X5_lawAt 0 0 (fun b => [.ref (b + v0), .int v1]) G S (QO (fun r G1 S1 => G1 = G ∧ Q r S1)) := MT.ofJ (by decide +kernel) (fun b => [(0, .ref (b + v0)), (1, .int v1)]) (fun b => rfl) (fun b => Nat.le_of_ble_eq_true rfl) (fun l b D cy p e s m below meth c C hE hn => j_X5_lawAt C hE t_v0 h)
theorem hd_X5_lawAt : yX5_lawAt.cls ≠ "java/lang/invoke/MethodHandle" ∧ yX5_lawAt.cls ≠ "java/lang/invoke/VarHandle" ∧ (parseMethodDescriptor yX5_lawAt.desc).map (fun d => d.parameters.length) = some 1 := by decide +kernel
abbrev rm_X5_lawInForce : Room := { frames := 2, cells := 0, slots := 0, locals := 42 }
set_option maxHeartbeats 4000000 in
set_option maxRecDepth 100000 in
theorem j_X5_lawInForce {p : Program} {l : Launch} {e : Env} {s : State} {m : MethodId} {args : Array Value} {below : List Frame} {meth : Method} {c : Code} {b : Nat} {D : va_G} {cy : Nat → ClassId} {G : Gm} {v0 : Nat} {S : St} {Q : Option Nat → St → Prop} (C : CX p s m args meth c b D cy cX5_lawInForce RX5 1 (some (.object "SinLenses$Text"))) (hE : s.heap.size + 0 ≤ b + G.2.2) (t_v0 : ok G 4 v0) (h : f_X5_lawInForce G v0 Q S) : J p l e rm_X5_lawInForce s m args below meth c b D cy 1 (zO b D cy below args s G Q) 0 0 G S 0 [(0, .ref (b + v0))] [] := by
  unfold f_X5_lawInForce at h
  refine jB C [(.aload_n 0, 1, 0), (.aload_n 0, 1, 0)] 2 [(0, .ref (b + v0))] [.ref (b + v0), .ref (b + v0)] (by decide +kernel) rfl rfl ?_
  refine jGetI C 5 (by decide +kernel : decode cX5_lawInForce 2 = .ok (.getfield 36, 3)) rfl t_v0 kX5 10 (by decide) rfl rfl (by decide) wd_56 ?_
  refine jcV_O C 8 (rest := []) (ok_X5_lawAt t_v0 h) (by decide +kernel : decode cX5_lawInForce 5 = .ok (.invokevirtual 96, 3)) rfl wd_449 wd_451 wp_16 wd_2 wd_452 ⟨rfl, rfl⟩ hd_X5_lawAt ⟨Nat.le_of_ble_eq_true rfl, Nat.le_of_ble_eq_true rfl⟩ t_v0 kX5 (by decide) rfl rfl rfl (Nat.le_of_ble_eq_true rfl) ⟨Nat.zero_le _, Nat.zero_le _⟩ (fun r2 S1 h => ?_)
  obtain ⟨t3, h⟩ := h
  exact jRetO C (r := r2) (by decide +kernel : decode cX5_lawInForce 8 = .ok (.areturn, 1)) (Nat.le_refl _) (Nat.le_refl _) ⟨rfl, h⟩
theorem ok_X5_lawInForce {G : Gm} {v0 : Nat} {S : St} {Q : Option Nat → St → Prop}  (t_v0 : ok G 4 v0) (h : f_X5_lawInForce G v0 Q S) : MT yX5_lawInForce cX5_lawInForce 1 (some (.object "SinLenses$Text")) rm_X5_lawInForce 0 0 (fun b => [.ref (b + v0)]) G S (QO (fun r G1 S1 => G1 = G ∧ Q r S1)) := MT.ofJ (by decide +kernel) (fun b => [(0, .ref (b + v0))]) (fun b => rfl) (fun b => Nat.le_of_ble_eq_true rfl) (fun l b D cy p e s m below meth c C hE hn => j_X5_lawInForce C hE t_v0 h)
theorem hd_X5_lawInForce : yX5_lawInForce.cls ≠ "java/lang/invoke/MethodHandle" ∧ yX5_lawInForce.cls ≠ "java/lang/invoke/VarHandle" ∧ (parseMethodDescriptor yX5_lawInForce.desc).map (fun d => d.parameters.length) = some 0 := by decide +kernel
abbrev rm_X8_verbOf : Room := { frames := 0, cells := 0, slots := 0, locals := 0 }
set_option maxHeartbeats 4000000 in
set_option maxRecDepth 100000 in
theorem j_X8_verbOf {p : Program} {l : Launch} {e : Env} {s : State} {m : MethodId} {args : Array Value} {below : List Frame} {meth : Method} {c : Code} {b : Nat} {D : va_G} {cy : Nat → ClassId} {G : Gm} {v0 : Nat} {v1 : Int32} {S : St} {Q : Int32 → St → Prop} (C : CX p s m args meth c b D cy cX8_verbOf RX8 2 (some .int)) (hE : s.heap.size + 0 ≤ b + G.2.2) (t_v0 : ok G 7 v0) (h : f_X8_verbOf G v0 v1 Q S) : J p l e rm_X8_verbOf s m args below meth c b D cy 2 (zI b D cy below args s G Q) 0 0 G S 0 [(0, .ref (b + v0)), (1, .int v1)] [] := by
  unfold f_X8_verbOf at h
  refine jB C [(.iload_n 1, 1, 0)] 1 [(0, .ref (b + v0)), (1, .int v1)] [.int v1] (by decide +kernel) rfl rfl ?_
  refine jIf_lt C 4 22 (by decide +kernel : decode cX8_verbOf 1 = .ok (.ifCond .lt 21, 3)) rfl rfl (fun c1 => ?_) (fun c1 => ?_)
  · have h := it1 h c1
    refine jB C [(.iconst (-1), 1, (-1))] 23 [(0, .ref (b + v0)), (1, .int v1)] [.int (-1)] (by decide +kernel) rfl rfl ?_
    exact jRetI C (by decide +kernel : decode cX8_verbOf 23 = .ok (.ireturn, 1)) (Nat.le_refl _) (Nat.le_refl _) ⟨rfl, h⟩
  · have h := it2 h c1
    refine jB C [(.iload_n 1, 1, 0), (.aload_n 0, 1, 0)] 6 [(0, .ref (b + v0)), (1, .int v1)] [.ref (b + v0), .int v1] (by decide +kernel) rfl rfl ?_
    obtain ⟨a2, e_a2, h⟩ := h
    refine jGetR C 9 (by decide +kernel : decode cX8_verbOf 6 = .ok (.getfield 13, 3)) rfl t_v0 kX8 0 (by decide) rfl rfl (by decide) wd_249 e_a2 rfl (fun t_a2 => ?_)
    refine jAlen11 C 10 (by decide +kernel : decode cX8_verbOf 9 = .ok (.arraylength, 1)) rfl t_a2 ?_
    refine jIcmp_ge C 13 22 (by decide +kernel : decode cX8_verbOf 10 = .ok (.if_icmp .ge 12, 3)) rfl rfl (fun c3 => ?_) (fun c3 => ?_)
    · have h := it1 h c3
      refine jB C [(.iconst (-1), 1, (-1))] 23 [(0, .ref (b + v0)), (1, .int v1)] [.int (-1)] (by decide +kernel) rfl rfl ?_
      exact jRetI C (by decide +kernel : decode cX8_verbOf 23 = .ok (.ireturn, 1)) (Nat.le_refl _) (Nat.le_refl _) ⟨rfl, h⟩
    · have h := it2 h c3
      refine jB C [(.aload_n 0, 1, 0)] 14 [(0, .ref (b + v0)), (1, .int v1)] [.ref (b + v0)] (by decide +kernel) rfl rfl ?_
      obtain ⟨a4, e_a4, h⟩ := h
      refine jGetR C 17 (by decide +kernel : decode cX8_verbOf 14 = .ok (.getfield 13, 3)) rfl t_v0 kX8 0 (by decide) rfl rfl (by decide) wd_249 e_a4 rfl (fun t_a4 => ?_)
      refine jB C [(.iload_n 1, 1, 0)] 18 [(0, .ref (b + v0)), (1, .int v1)] [.int v1, .ref (b + a4)] (by decide +kernel) rfl rfl ?_
      obtain ⟨y5, h⟩ := h
      refine jIald C 19 (by decide +kernel : decode cX8_verbOf 18 = .ok (.iaload, 1)) rfl t_a4 y5 ?_
      refine jGoto C 23 (by decide +kernel : decode cX8_verbOf 19 = .ok (.goto 4, 3)) rfl ?_
      exact jRetI C (by decide +kernel : decode cX8_verbOf 23 = .ok (.ireturn, 1)) (Nat.le_refl _) (Nat.le_refl _) ⟨rfl, h⟩
theorem ok_X8_verbOf {G : Gm} {v0 : Nat} {v1 : Int32} {S : St} {Q : Int32 → St → Prop}  (t_v0 : ok G 7 v0) (h : f_X8_verbOf G v0 v1 Q S) : MT yX8_verbOf cX8_verbOf 2 (some .int) rm_X8_verbOf 0 0 (fun b => [.ref (b + v0), .int v1]) G S (QI (fun r G1 S1 => G1 = G ∧ Q r S1)) := MT.ofJ (by decide +kernel) (fun b => [(0, .ref (b + v0)), (1, .int v1)]) (fun b => rfl) (fun b => Nat.le_of_ble_eq_true rfl) (fun l b D cy p e s m below meth c C hE hn => j_X8_verbOf C hE t_v0 h)
theorem hd_X8_verbOf : yX8_verbOf.cls ≠ "java/lang/invoke/MethodHandle" ∧ yX8_verbOf.cls ≠ "java/lang/invoke/VarHandle" ∧ (parseMethodDescriptor yX8_verbOf.desc).map (fun d => d.parameters.length) = some 1 := by decide +kernel
abbrev rm_X8_markOf : Room := { frames := 0, cells := 0, slots := 0, locals := 0 }
set_option maxHeartbeats 4000000 in
set_option maxRecDepth 100000 in
theorem j_X8_markOf {p : Program} {l : Launch} {e : Env} {s : State} {m : MethodId} {args : Array Value} {below : List Frame} {meth : Method} {c : Code} {b : Nat} {D : va_G} {cy : Nat → ClassId} {G : Gm} {v0 : Nat} {v1 : Int32} {v2 : Int32} {S : St} {Q : Int32 → St → Prop} (C : CX p s m args meth c b D cy cX8_markOf RX8 4 (some .int)) (hE : s.heap.size + 0 ≤ b + G.2.2) (t_v0 : ok G 7 v0) (h : f_X8_markOf G v0 v1 v2 Q S) : J p l e rm_X8_markOf s m args below meth c b D cy 4 (zI b D cy below args s G Q) 0 0 G S 0 [(0, .ref (b + v0)), (1, .int v1), (2, .int v2)] [] := by
  unfold f_X8_markOf at h
  refine jB C [(.iload_n 1, 1, 0), (.iconst 4, 1, 4), (.imul, 1, 0), (.iload_n 2, 1, 0), (.iadd, 1, 0)] 5 [(0, .ref (b + v0)), (1, .int v1), (2, .int v2)] [.int ((v1 * 4) + v2)] (by decide +kernel) rfl rfl ?_
  refine jTopI (fun x1 e_x1 => ?_)
  have h := h x1 e_x1
  refine jB C [(.istore_n 3, 1, 0), (.iload_n 3, 1, 0)] 7 [(3, .int x1), (0, .ref (b + v0)), (1, .int v1), (2, .int v2)] [.int x1] (by decide +kernel) rfl rfl ?_
  refine jIf_lt C 10 28 (by decide +kernel : decode cX8_markOf 7 = .ok (.ifCond .lt 21, 3)) rfl rfl (fun c2 => ?_) (fun c2 => ?_)
  · have h := it1 h c2
    refine jB C [(.iconst 0, 1, 0)] 29 [(3, .int x1), (0, .ref (b + v0)), (1, .int v1), (2, .int v2)] [.int 0] (by decide +kernel) rfl rfl ?_
    exact jRetI C (by decide +kernel : decode cX8_markOf 29 = .ok (.ireturn, 1)) (Nat.le_refl _) (Nat.le_refl _) ⟨rfl, h⟩
  · have h := it2 h c2
    refine jB C [(.iload_n 3, 1, 0), (.aload_n 0, 1, 0)] 12 [(3, .int x1), (0, .ref (b + v0)), (1, .int v1), (2, .int v2)] [.ref (b + v0), .int x1] (by decide +kernel) rfl rfl ?_
    obtain ⟨a3, e_a3, h⟩ := h
    refine jGetR C 15 (by decide +kernel : decode cX8_markOf 12 = .ok (.getfield 25, 3)) rfl t_v0 kX8 3 (by decide) rfl rfl (by decide) wd_252 e_a3 rfl (fun t_a3 => ?_)
    refine jAlen11 C 16 (by decide +kernel : decode cX8_markOf 15 = .ok (.arraylength, 1)) rfl t_a3 ?_
    refine jIcmp_ge C 19 28 (by decide +kernel : decode cX8_markOf 16 = .ok (.if_icmp .ge 12, 3)) rfl rfl (fun c4 => ?_) (fun c4 => ?_)
    · have h := it1 h c4
      refine jB C [(.iconst 0, 1, 0)] 29 [(3, .int x1), (0, .ref (b + v0)), (1, .int v1), (2, .int v2)] [.int 0] (by decide +kernel) rfl rfl ?_
      exact jRetI C (by decide +kernel : decode cX8_markOf 29 = .ok (.ireturn, 1)) (Nat.le_refl _) (Nat.le_refl _) ⟨rfl, h⟩
    · have h := it2 h c4
      refine jB C [(.aload_n 0, 1, 0)] 20 [(3, .int x1), (0, .ref (b + v0)), (1, .int v1), (2, .int v2)] [.ref (b + v0)] (by decide +kernel) rfl rfl ?_
      obtain ⟨a5, e_a5, h⟩ := h
      refine jGetR C 23 (by decide +kernel : decode cX8_markOf 20 = .ok (.getfield 25, 3)) rfl t_v0 kX8 3 (by decide) rfl rfl (by decide) wd_252 e_a5 rfl (fun t_a5 => ?_)
      refine jB C [(.iload_n 3, 1, 0)] 24 [(3, .int x1), (0, .ref (b + v0)), (1, .int v1), (2, .int v2)] [.int x1, .ref (b + a5)] (by decide +kernel) rfl rfl ?_
      obtain ⟨y6, h⟩ := h
      refine jIald C 25 (by decide +kernel : decode cX8_markOf 24 = .ok (.iaload, 1)) rfl t_a5 y6 ?_
      refine jGoto C 29 (by decide +kernel : decode cX8_markOf 25 = .ok (.goto 4, 3)) rfl ?_
      exact jRetI C (by decide +kernel : decode cX8_markOf 29 = .ok (.ireturn, 1)) (Nat.le_refl _) (Nat.le_refl _) ⟨rfl, h⟩
theorem ok_X8_markOf {G : Gm} {v0 : Nat} {v1 : Int32} {v2 : Int32} {S : St} {Q : Int32 → St → Prop}  (t_v0 : ok G 7 v0) (h : f_X8_markOf G v0 v1 v2 Q S) : MT yX8_markOf cX8_markOf 4 (some .int) rm_X8_markOf 0 0 (fun b => [.ref (b + v0), .int v1, .int v2]) G S (QI (fun r G1 S1 => G1 = G ∧ Q r S1)) := MT.ofJ (by decide +kernel) (fun b => [(0, .ref (b + v0)), (1, .int v1), (2, .int v2)]) (fun b => rfl) (fun b => Nat.le_of_ble_eq_true rfl) (fun l b D cy p e s m below meth c C hE hn => j_X8_markOf C hE t_v0 h)
theorem hd_X8_markOf : yX8_markOf.cls ≠ "java/lang/invoke/MethodHandle" ∧ yX8_markOf.cls ≠ "java/lang/invoke/VarHandle" ∧ (parseMethodDescriptor yX8_markOf.desc).map (fun d => d.parameters.length) = some 2 := by decide +kernel
