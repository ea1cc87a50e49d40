abbrev rm_X11_remember : Room := { frames := 1, cells := 0, slots := 0, locals := 22 }
set_option maxHeartbeats 4000000 in
set_option maxRecDepth 100000 in
theorem j_X11_remember_77 {p : Program} {l : Launch} {e : Env} {s : State} {m : MethodId} {args : Array Value} {below : List Frame} {meth : Method} {c : Code} {b : Nat} {D : va_G} {cy : Nat → ClassId} {G : Gm} {v0 : Nat} {v1 : Int32} {S : St} {Q : St → Prop} (C : CX p s m args meth c b D cy cX11_remember RX11 3 none) (hE : s.heap.size + 0 ≤ b + G.2.2) (t_v0 : ok G 10 v0) (h : f_X11_remember_77 G v0 v1 Q S) : J p l e rm_X11_remember s m args below meth c b D cy 3 (zV b D cy below args s G Q) 0 0 G S 77 [(0, .ref (b + v0)), (1, .int v1)] [] := by
  unfold f_X11_remember_77 at h
  refine jB C [(.aload_n 0, 1, 0), (.aload_n 0, 1, 0)] 79 [(0, .ref (b + v0)), (1, .int v1)] [.ref (b + v0), .ref (b + v0)] (by decide +kernel) rfl rfl ?_
  refine jGetI C 82 (by decide +kernel : decode cX11_remember 79 = .ok (.getfield 171, 3)) rfl t_v0 kX11 9 (by decide) rfl rfl (by decide) wd_1163 ?_
  refine jcV_V C 85 (rest := []) (ok_X11_keepAll t_v0 h) (by decide +kernel : decode cX11_remember 82 = .ok (.invokevirtual 178, 3)) rfl wd_1651 wd_1653 wp_145 wd_12 wd_1654 ⟨rfl, rfl⟩ hd_X11_keepAll ⟨Nat.le_of_ble_eq_true rfl, Nat.le_of_ble_eq_true rfl⟩ t_v0 kX11 (by decide) rfl rfl rfl (Nat.le_of_ble_eq_true rfl) ⟨Nat.zero_le _, Nat.zero_le _⟩ (fun S1 h => ?_)
  refine jB C [(.aload_n 0, 1, 0)] 86 [(0, .ref (b + v0)), (1, .int v1)] [.ref (b + v0)] (by decide +kernel) rfl rfl ?_
  obtain ⟨a2, e_a2, h⟩ := h
  refine jGetR C 89 (by decide +kernel : decode cX11_remember 86 = .ok (.getfield 29, 3)) rfl t_v0 kX11 8 (by decide) rfl rfl (by decide) wd_1162 e_a2 rfl (fun t_a2 => ?_)
  refine jB C [(.aload_n 0, 1, 0)] 90 [(0, .ref (b + v0)), (1, .int v1)] [.ref (b + v0), .ref (b + a2)] (by decide +kernel) rfl rfl ?_
  refine jGetI C 93 (by decide +kernel : decode cX11_remember 90 = .ok (.getfield 171, 3)) rfl t_v0 kX11 9 (by decide) rfl rfl (by decide) wd_1163 ?_
  refine jB C [(.iload_n 1, 1, 0)] 94 [(0, .ref (b + v0)), (1, .int v1)] [.int v1, .int (S1.1 v0 9), .ref (b + a2)] (by decide +kernel) rfl rfl ?_
  obtain ⟨y3, h⟩ := h
  refine jIast C 95 (by decide +kernel : decode cX11_remember 94 = .ok (.iastore, 1)) rfl hE t_a2 y3 ?_
  refine jTopS (fun S4 e_S4 => ?_)
  have h := h S4 e_S4
  refine jB C [(.aload_n 0, 1, 0), (.dup, 1, 0)] 97 [(0, .ref (b + v0)), (1, .int v1)] [.ref (b + v0), .ref (b + v0)] (by decide +kernel) rfl rfl ?_
  refine jGetI C 100 (by decide +kernel : decode cX11_remember 97 = .ok (.getfield 171, 3)) rfl t_v0 kX11 9 (by decide) rfl rfl (by decide) wd_1163 ?_
  refine jB C [(.iconst 1, 1, 1), (.iadd, 1, 0)] 102 [(0, .ref (b + v0)), (1, .int v1)] [.int ((S4.1 v0 9) + 1), .ref (b + v0)] (by decide +kernel) rfl rfl ?_
  refine jPutI C 105 (by decide +kernel : decode cX11_remember 102 = .ok (.putfield 171, 3)) rfl hE t_v0 kX11 9 (by decide) rfl rfl (by decide) rfl wd_1163 rfl rfl rfl ?_
  refine jTopS (fun S5 e_S5 => ?_)
  have h := h S5 e_S5
  exact jRetV C (by decide +kernel : decode cX11_remember 105 = .ok (.return_, 1)) (Nat.le_refl _) (Nat.le_refl _) ⟨rfl, h⟩
set_option maxHeartbeats 4000000 in
set_option maxRecDepth 100000 in
theorem j_X11_remember_41_n {p : Program} {l : Launch} {e : Env} {s : State} {m : MethodId} {args : Array Value} {below : List Frame} {meth : Method} {c : Code} {b : Nat} {D : va_G} {cy : Nat → ClassId} {G : Gm} {v0 : Nat} {v1 : Int32} {Q : St → Prop} (C : CX p s m args meth c b D cy cX11_remember RX11 3 none) (hE : s.heap.size + 0 ≤ b + G.2.2) (t_v0 : ok G 10 v0) : ∀ k (v2 : Int32) S, f_X11_remember_41_n G v0 v1 Q k v2 S → J p l e rm_X11_remember s m args below meth c b D cy 3 (zV b D cy below args s G Q) 0 0 G S 41 [(0, .ref (b + v0)), (1, .int v1), (2, .int v2)] [] := by
  intro k
  induction k with
  | zero => intro v2 S h; exact h.elim
  | succ k ih =>
    intro v2 S h
    unfold f_X11_remember_41_n at h
    refine jB C [(.iload_n 2, 1, 0), (.bipush 15, 2, 15)] 44 [(0, .ref (b + v0)), (1, .int v1), (2, .int v2)] [.int 15, .int v2] (by decide +kernel) rfl rfl ?_
    refine jIcmp_ge C 47 67 (by decide +kernel : decode cX11_remember 44 = .ok (.if_icmp .ge 23, 3)) rfl rfl (fun c1 => ?_) (fun c1 => ?_)
    · have h := it1 h c1
      refine jB C [(.aload_n 0, 1, 0), (.dup, 1, 0)] 69 [(0, .ref (b + v0)), (1, .int v1), (2, .int v2)] [.ref (b + v0), .ref (b + v0)] (by decide +kernel) rfl rfl ?_
      refine jGetI C 72 (by decide +kernel : decode cX11_remember 69 = .ok (.getfield 171, 3)) rfl t_v0 kX11 9 (by decide) rfl rfl (by decide) wd_1163 ?_
      refine jB C [(.iconst 1, 1, 1), (.isub, 1, 0)] 74 [(0, .ref (b + v0)), (1, .int v1), (2, .int v2)] [.int ((S.1 v0 9) - 1), .ref (b + v0)] (by decide +kernel) rfl rfl ?_
      refine jPutI C 77 (by decide +kernel : decode cX11_remember 74 = .ok (.putfield 171, 3)) rfl hE t_v0 kX11 9 (by decide) rfl rfl (by decide) rfl wd_1163 rfl rfl rfl ?_
      refine jTopS (fun S2 e_S2 => ?_)
      have h := h S2 e_S2
      refine jSub [0, 1] rfl ?_
      exact j_X11_remember_77 C hE t_v0 h
    · have h := it2 h c1
      refine jB C [(.aload_n 0, 1, 0)] 48 [(0, .ref (b + v0)), (1, .int v1), (2, .int v2)] [.ref (b + v0)] (by decide +kernel) rfl rfl ?_
      obtain ⟨a3, e_a3, h⟩ := h
      refine jGetR C 51 (by decide +kernel : decode cX11_remember 48 = .ok (.getfield 29, 3)) rfl t_v0 kX11 8 (by decide) rfl rfl (by decide) wd_1162 e_a3 rfl (fun t_a3 => ?_)
      refine jB C [(.iload_n 2, 1, 0), (.aload_n 0, 1, 0)] 53 [(0, .ref (b + v0)), (1, .int v1), (2, .int v2)] [.ref (b + v0), .int v2, .ref (b + a3)] (by decide +kernel) rfl rfl ?_
      obtain ⟨a4, e_a4, h⟩ := h
      refine jGetR C 56 (by decide +kernel : decode cX11_remember 53 = .ok (.getfield 29, 3)) rfl t_v0 kX11 8 (by decide) rfl rfl (by decide) wd_1162 e_a4 rfl (fun t_a4 => ?_)
      refine jB C [(.iload_n 2, 1, 0), (.iconst 1, 1, 1), (.iadd, 1, 0)] 59 [(0, .ref (b + v0)), (1, .int v1), (2, .int v2)] [.int (v2 + 1), .ref (b + a4), .int v2, .ref (b + a3)] (by decide +kernel) rfl rfl ?_
      obtain ⟨y5, h⟩ := h
      refine jIald C 60 (by decide +kernel : decode cX11_remember 59 = .ok (.iaload, 1)) rfl t_a4 y5 ?_
      obtain ⟨y6, h⟩ := h
      refine jIast C 61 (by decide +kernel : decode cX11_remember 60 = .ok (.iastore, 1)) rfl hE t_a3 y6 ?_
      refine jTopS (fun S7 e_S7 => ?_)
      have h := h S7 e_S7
      refine jB C [(.iinc 2 1, 3, 1)] 64 [(2, .int (v2 + 1)), (0, .ref (b + v0)), (1, .int v1)] [] (by decide +kernel) rfl rfl ?_
      refine jGoto C 41 (by decide +kernel : decode cX11_remember 64 = .ok (.goto (-23), 3)) rfl ?_
      refine jSub [1, 2, 0] rfl ?_
      exact ih (v2 + 1) S7 h
theorem j_X11_remember_41 {p : Program} {l : Launch} {e : Env} {s : State} {m : MethodId} {args : Array Value} {below : List Frame} {meth : Method} {c : Code} {b : Nat} {D : va_G} {cy : Nat → ClassId} {G : Gm} {v0 : Nat} {v1 : Int32} {v2 : Int32} {S : St} {Q : St → Prop} (C : CX p s m args meth c b D cy cX11_remember RX11 3 none) (hE : s.heap.size + 0 ≤ b + G.2.2) (t_v0 : ok G 10 v0) (h : f_X11_remember_41 G v0 v1 Q v2 S) : J p l e rm_X11_remember s m args below meth c b D cy 3 (zV b D cy below args s G Q) 0 0 G S 41 [(0, .ref (b + v0)), (1, .int v1), (2, .int v2)] [] := by
  obtain ⟨k, h⟩ := h
  exact j_X11_remember_41_n C hE t_v0 k v2 S h
set_option maxHeartbeats 4000000 in
set_option maxRecDepth 100000 in
theorem j_X11_remember_11_n {p : Program} {l : Launch} {e : Env} {s : State} {m : MethodId} {args : Array Value} {below : List Frame} {meth : Method} {c : Code} {b : Nat} {D : va_G} {cy : Nat → ClassId} {G : Gm} {v0 : Nat} {v1 : Int32} {Q : St → Prop} (C : CX p s m args meth c b D cy cX11_remember RX11 3 none) (hE : s.heap.size + 0 ≤ b + G.2.2) (t_v0 : ok G 10 v0) : ∀ k (v2 : Int32) S, f_X11_remember_11_n G v0 v1 Q k v2 S → J p l e rm_X11_remember s m args below meth c b D cy 3 (zV b D cy below args s G Q) 0 0 G S 11 [(0, .ref (b + v0)), (1, .int v1), (2, .int v2)] [] := by
  intro k
  induction k with
  | zero => intro v2 S h; exact h.elim
  | succ k ih =>
    intro v2 S h
    unfold f_X11_remember_11_n at h
    refine jB C [(.iload_n 2, 1, 0), (.sipush 870, 3, 870)] 15 [(0, .ref (b + v0)), (1, .int v1), (2, .int v2)] [.int 870, .int v2] (by decide +kernel) rfl rfl ?_
    refine jIcmp_ge C 18 39 (by decide +kernel : decode cX11_remember 15 = .ok (.if_icmp .ge 24, 3)) rfl rfl (fun c1 => ?_) (fun c1 => ?_)
    · have h := it1 h c1
      refine jB C [(.iconst 0, 1, 0), (.istore_n 2, 1, 0)] 41 [(2, .int 0), (0, .ref (b + v0)), (1, .int v1)] [] (by decide +kernel) rfl rfl ?_
      refine jSub [1, 2, 0] rfl ?_
      exact j_X11_remember_41 C hE t_v0 h
    · have h := it2 h c1
      refine jB C [(.aload_n 0, 1, 0)] 19 [(0, .ref (b + v0)), (1, .int v1), (2, .int v2)] [.ref (b + v0)] (by decide +kernel) rfl rfl ?_
      obtain ⟨a2, e_a2, h⟩ := h
      refine jGetR C 22 (by decide +kernel : decode cX11_remember 19 = .ok (.getfield 26, 3)) rfl t_v0 kX11 7 (by decide) rfl rfl (by decide) wd_1161 e_a2 rfl (fun t_a2 => ?_)
      refine jB C [(.iload_n 2, 1, 0), (.aload_n 0, 1, 0)] 24 [(0, .ref (b + v0)), (1, .int v1), (2, .int v2)] [.ref (b + v0), .int v2, .ref (b + a2)] (by decide +kernel) rfl rfl ?_
      obtain ⟨a3, e_a3, h⟩ := h
      refine jGetR C 27 (by decide +kernel : decode cX11_remember 24 = .ok (.getfield 26, 3)) rfl t_v0 kX11 7 (by decide) rfl rfl (by decide) wd_1161 e_a3 rfl (fun t_a3 => ?_)
      refine jB C [(.iload_n 2, 1, 0), (.bipush 58, 2, 58), (.iadd, 1, 0)] 31 [(0, .ref (b + v0)), (1, .int v1), (2, .int v2)] [.int (v2 + 58), .ref (b + a3), .int v2, .ref (b + a2)] (by decide +kernel) rfl rfl ?_
      obtain ⟨y4, h⟩ := h
      refine jIald C 32 (by decide +kernel : decode cX11_remember 31 = .ok (.iaload, 1)) rfl t_a3 y4 ?_
      obtain ⟨y5, h⟩ := h
      refine jIast C 33 (by decide +kernel : decode cX11_remember 32 = .ok (.iastore, 1)) rfl hE t_a2 y5 ?_
      refine jTopS (fun S6 e_S6 => ?_)
      have h := h S6 e_S6
      refine jB C [(.iinc 2 1, 3, 1)] 36 [(2, .int (v2 + 1)), (0, .ref (b + v0)), (1, .int v1)] [] (by decide +kernel) rfl rfl ?_
      refine jGoto C 11 (by decide +kernel : decode cX11_remember 36 = .ok (.goto (-25), 3)) rfl ?_
      refine jSub [1, 2, 0] rfl ?_
      exact ih (v2 + 1) S6 h
theorem j_X11_remember_11 {p : Program} {l : Launch} {e : Env} {s : State} {m : MethodId} {args : Array Value} {below : List Frame} {meth : Method} {c : Code} {b : Nat} {D : va_G} {cy : Nat → ClassId} {G : Gm} {v0 : Nat} {v1 : Int32} {v2 : Int32} {S : St} {Q : St → Prop} (C : CX p s m args meth c b D cy cX11_remember RX11 3 none) (hE : s.heap.size + 0 ≤ b + G.2.2) (t_v0 : ok G 10 v0) (h : f_X11_remember_11 G v0 v1 Q v2 S) : J p l e rm_X11_remember s m args below meth c b D cy 3 (zV b D cy below args s G Q) 0 0 G S 11 [(0, .ref (b + v0)), (1, .int v1), (2, .int v2)] [] := by
  obtain ⟨k, h⟩ := h
  exact j_X11_remember_11_n C hE t_v0 k v2 S h
set_option maxHeartbeats 4000000 in
set_option maxRecDepth 100000 in
theorem j_X11_remember {p : Program} {l : Launch} {e : Env} {s : State} {m : MethodId} {args : Array Value} {below : List Frame} {meth : Method} {c : Code} {b : Nat} {D : va_G} {cy : Nat → ClassId} {G : Gm} {v0 : Nat} {v1 : Int32} {S : St} {Q : St → Prop} (C : CX p s m args meth c b D cy cX11_remember RX11 3 none) (hE : s.heap.size + 0 ≤ b + G.2.2) (t_v0 : ok G 10 v0) (h : f_X11_remember G v0 v1 Q S) : J p l e rm_X11_remember s m args below meth c b D cy 3 (zV b D cy below args s G Q) 0 0 G S 0 [(0, .ref (b + v0)), (1, .int v1)] [] := by
  unfold f_X11_remember at h
  refine jB C [(.aload_n 0, 1, 0)] 1 [(0, .ref (b + v0)), (1, .int v1)] [.ref (b + v0)] (by decide +kernel) rfl rfl ?_
  refine jGetI C 4 (by decide +kernel : decode cX11_remember 1 = .ok (.getfield 171, 3)) rfl t_v0 kX11 9 (by decide) rfl rfl (by decide) wd_1163 ?_
  refine jB C [(.bipush 16, 2, 16)] 6 [(0, .ref (b + v0)), (1, .int v1)] [.int 16, .int (S.1 v0 9)] (by decide +kernel) rfl rfl ?_
  refine jIcmp_ne C 9 77 (by decide +kernel : decode cX11_remember 6 = .ok (.if_icmp .ne 71, 3)) rfl rfl (fun c1 => ?_) (fun c1 => ?_)
  · have h := it2 h c1
    refine jSub [0, 1] rfl ?_
    exact j_X11_remember_77 C hE t_v0 h
  · have h := it1 h c1
    refine jB C [(.iconst 0, 1, 0), (.istore_n 2, 1, 0)] 11 [(2, .int 0), (0, .ref (b + v0)), (1, .int v1)] [] (by decide +kernel) rfl rfl ?_
    refine jSub [1, 2, 0] rfl ?_
    exact j_X11_remember_11 C hE t_v0 h
theorem ok_X11_remember {G : Gm} {v0 : Nat} {v1 : Int32} {S : St} {Q : St → Prop}  (t_v0 : ok G 10 v0) (h : f_X11_remember G v0 v1 Q S) : MT yX11_remember cX11_remember 3 none rm_X11_remember 0 0 (fun b => [.ref (b + v0), .int v1]) G S (QV (fun G1 S1 => G1 = G ∧ Q S1)) := MT.ofJ (by decide +kernel) (fun b => [(0, .ref (b + v0)), (1, .int v1)]) (fun b => rfl) (fun b => Nat.le_of_ble_eq_true rfl) (fun l b D cy p e s m below meth c C hE hn => j_X11_remember C hE t_v0 h)
theorem hd_X11_remember : yX11_remember.cls ≠ "java/lang/invoke/MethodHandle" ∧ yX11_remember.cls ≠ "java/lang/invoke/VarHandle" ∧ (parseMethodDescriptor yX11_remember.desc).map (fun d => d.parameters.length) = some 1 := by decide +kernel
abbrev rm_X11_sinNow : Room := { frames := 2, cells := 0, slots := 0, locals := 46 }
set_option maxHeartbeats 4000000 in
set_option maxRecDepth 100000 in
theorem j_X11_sinNow {p : Program} {l : Launch} {e : Env} {s : State} {m : MethodId} {args : Array Value} {below : List Frame} {meth : Method} {c : Code} {b : Nat} {D : va_G} {cy : Nat → ClassId} {G : Gm} {v0 : Nat} {v1 : Int32} {v2 : Int32} {v3 : Int32} {S : St} {Q : Int32 → St → Prop} (C : CX p s m args meth c b D cy cX11_sinNow RX11 5 (some .int)) (hE : s.heap.size + 0 ≤ b + G.2.2) (t_v0 : ok G 10 v0) (h : f_X11_sinNow G v0 v1 v2 v3 Q S) : J p l e rm_X11_sinNow s m args below meth c b D cy 5 (zI b D cy below args s G Q) 0 0 G S 0 [(0, .ref (b + v0)), (1, .int v1), (2, .int v2), (3, .int v3)] [] := by
  unfold f_X11_sinNow at h
  refine jB C [(.iload_n 2, 1, 0)] 1 [(0, .ref (b + v0)), (1, .int v1), (2, .int v2), (3, .int v3)] [.int v2] (by decide +kernel) rfl rfl ?_
  refine jcS_I C 4 (rest := []) (ok_X11_isKind h) (by decide +kernel : decode cX11_sinNow 1 = .ok (.invokestatic 224, 3)) rfl wd_1438 wd_1439 wd_12 wd_1440 ⟨rfl, rfl⟩ hd_X11_isKind ⟨Nat.le_of_ble_eq_true rfl, Nat.le_of_ble_eq_true rfl⟩ rfl rfl (Nat.le_of_ble_eq_true rfl) ⟨Nat.zero_le _, Nat.zero_le _⟩ (fun r2 S1 h => ?_)
  refine jIf_eq C 7 21 (by decide +kernel : decode cX11_sinNow 4 = .ok (.ifCond .eq 17, 3)) rfl rfl (fun c3 => ?_) (fun c3 => ?_)
  · have h := it1 h c3
    refine jB C [(.iconst (-1), 1, (-1))] 22 [(0, .ref (b + v0)), (1, .int v1), (2, .int v2), (3, .int v3)] [.int (-1)] (by decide +kernel) rfl rfl ?_
    exact jRetI C (by decide +kernel : decode cX11_sinNow 22 = .ok (.ireturn, 1)) (Nat.le_refl _) (Nat.le_refl _) ⟨rfl, h⟩
  · have h := it2 h c3
    refine jB C [(.iload_n 3, 1, 0), (.i2l, 1, 0)] 9 [(0, .ref (b + v0)), (1, .int v1), (2, .int v2), (3, .int v3)] [.long v3.toInt64] (by decide +kernel) rfl rfl ?_
    refine jLdc2 C 12 (by decide +kernel : decode cX11_sinNow 9 = .ok (.ldc2_w 462, 3)) rfl wd_1646 ?_
    refine jLdc2 C 15 (by decide +kernel : decode cX11_sinNow 12 = .ok (.ldc2_w 203, 3)) rfl wd_1371 ?_
    refine jcS_I C 18 (rest := []) (ok_X11_in h) (by decide +kernel : decode cX11_sinNow 15 = .ok (.invokestatic 185, 3)) rfl wd_1352 wd_1353 wd_12 wd_1354 ⟨rfl, rfl⟩ hd_X11_in ⟨Nat.le_of_ble_eq_true rfl, Nat.le_of_ble_eq_true rfl⟩ rfl rfl (Nat.le_of_ble_eq_true rfl) ⟨Nat.zero_le _, Nat.zero_le _⟩ (fun r5 S4 h => ?_)
    refine jIf_ne C 21 23 (by decide +kernel : decode cX11_sinNow 18 = .ok (.ifCond .ne 5, 3)) rfl rfl (fun c6 => ?_) (fun c6 => ?_)
    · have h := it2 h c6
      refine jB C [(.aload_n 0, 1, 0), (.iload_n 1, 1, 0)] 25 [(0, .ref (b + v0)), (1, .int v1), (2, .int v2), (3, .int v3)] [.int v1, .ref (b + v0)] (by decide +kernel) rfl rfl ?_
      refine jcV_I C 28 (rest := []) (ok_X11_isPerson t_v0 h) (by decide +kernel : decode cX11_sinNow 25 = .ok (.invokevirtual 209, 3)) rfl wd_1376 wd_1378 wp_103 wd_12 wd_1379 ⟨rfl, rfl⟩ hd_X11_isPerson ⟨Nat.le_of_ble_eq_true rfl, Nat.le_of_ble_eq_true rfl⟩ t_v0 kX11 (by decide) rfl rfl rfl (Nat.le_of_ble_eq_true rfl) ⟨Nat.zero_le _, Nat.zero_le _⟩ (fun r8 S7 h => ?_)
      refine jIf_ne C 31 34 (by decide +kernel : decode cX11_sinNow 28 = .ok (.ifCond .ne 6, 3)) rfl rfl (fun c9 => ?_) (fun c9 => ?_)
      · have h := it2 h c9
        refine jB C [(.aload_n 0, 1, 0)] 35 [(0, .ref (b + v0)), (1, .int v1), (2, .int v2), (3, .int v3)] [.ref (b + v0)] (by decide +kernel) rfl rfl ?_
        obtain ⟨a10, e_a10, h⟩ := h
        refine jGetR C 38 (by decide +kernel : decode cX11_sinNow 35 = .ok (.getfield 16, 3)) rfl t_v0 kX11 4 (by decide) rfl rfl (by decide) wd_1158 e_a10 rfl (fun t_a10 => ?_)
        refine jB C [(.bipush 8, 2, 8), (.iconst 4, 1, 4), (.iload_n 1, 1, 0), (.imul, 1, 0), (.iadd, 1, 0), (.iload_n 2, 1, 0), (.iadd, 1, 0)] 46 [(0, .ref (b + v0)), (1, .int v1), (2, .int v2), (3, .int v3)] [.int ((8 + (4 * v1)) + v2), .ref (b + a10)] (by decide +kernel) rfl rfl ?_
        obtain ⟨y11, h⟩ := h
        refine jIald C 47 (by decide +kernel : decode cX11_sinNow 46 = .ok (.iaload, 1)) rfl t_a10 y11 ?_
        refine jB C [(.iload_n 3, 1, 0), (.iadd, 1, 0)] 49 [(0, .ref (b + v0)), (1, .int v1), (2, .int v2), (3, .int v3)] [.int ((S7.1 a10 ((8 + (4 * v1)) + v2).toNatClampNeg) + v3)] (by decide +kernel) rfl rfl ?_
        refine jTopI (fun x12 e_x12 => ?_)
        have h := h x12 e_x12
        refine jB C [(.istore 4, 2, 0), (.iload 4, 2, 0), (.i2l, 1, 0), (.lconst 0, 1, 0)] 55 [(4, .int x12), (0, .ref (b + v0)), (1, .int v1), (2, .int v2), (3, .int v3)] [.long 0, .long x12.toInt64] (by decide +kernel) rfl rfl ?_
        refine jLdc2 C 58 (by decide +kernel : decode cX11_sinNow 55 = .ok (.ldc2_w 203, 3)) rfl wd_1371 ?_
        refine jcS_I C 61 (rest := []) (ok_X11_in h) (by decide +kernel : decode cX11_sinNow 58 = .ok (.invokestatic 185, 3)) rfl wd_1352 wd_1353 wd_12 wd_1354 ⟨rfl, rfl⟩ hd_X11_in ⟨Nat.le_of_ble_eq_true rfl, Nat.le_of_ble_eq_true rfl⟩ rfl rfl (Nat.le_of_ble_eq_true rfl) ⟨Nat.zero_le _, Nat.zero_le _⟩ (fun r14 S13 h => ?_)
        refine jIf_ne C 64 67 (by decide +kernel : decode cX11_sinNow 61 = .ok (.ifCond .ne 6, 3)) rfl rfl (fun c15 => ?_) (fun c15 => ?_)
        · have h := it2 h c15
          refine jB C [(.aload_n 0, 1, 0), (.iconst 0, 1, 0)] 69 [(4, .int x12), (0, .ref (b + v0)), (1, .int v1), (2, .int v2), (3, .int v3)] [.int 0, .ref (b + v0)] (by decide +kernel) rfl rfl ?_
          refine jcV_V C 72 (rest := []) (ok_X11_remember t_v0 h) (by decide +kernel : decode cX11_sinNow 69 = .ok (.invokevirtual 464, 3)) rfl wd_1647 wd_1649 wp_144 wd_12 wd_1650 ⟨rfl, rfl⟩ hd_X11_remember ⟨Nat.le_of_ble_eq_true rfl, Nat.le_of_ble_eq_true rfl⟩ t_v0 kX11 (by decide) rfl rfl rfl (Nat.le_of_ble_eq_true rfl) ⟨Nat.zero_le _, Nat.zero_le _⟩ (fun S16 h => ?_)
          refine jB C [(.aload_n 0, 1, 0)] 73 [(4, .int x12), (0, .ref (b + v0)), (1, .int v1), (2, .int v2), (3, .int v3)] [.ref (b + v0)] (by decide +kernel) rfl rfl ?_
          obtain ⟨a17, e_a17, h⟩ := h
          refine jGetR C 76 (by decide +kernel : decode cX11_sinNow 73 = .ok (.getfield 16, 3)) rfl t_v0 kX11 4 (by decide) rfl rfl (by decide) wd_1158 e_a17 rfl (fun t_a17 => ?_)
          refine jB C [(.bipush 8, 2, 8), (.iconst 4, 1, 4), (.iload_n 1, 1, 0), (.imul, 1, 0), (.iadd, 1, 0), (.iload_n 2, 1, 0), (.iadd, 1, 0), (.iload 4, 2, 0)] 86 [(4, .int x12), (0, .ref (b + v0)), (1, .int v1), (2, .int v2), (3, .int v3)] [.int x12, .int ((8 + (4 * v1)) + v2), .ref (b + a17)] (by decide +kernel) rfl rfl ?_
          obtain ⟨y18, h⟩ := h
          refine jIast C 87 (by decide +kernel : decode cX11_sinNow 86 = .ok (.iastore, 1)) rfl hE t_a17 y18 ?_
          refine jTopS (fun S19 e_S19 => ?_)
          have h := h S19 e_S19
          refine jB C [(.iload 4, 2, 0)] 89 [(4, .int x12), (0, .ref (b + v0)), (1, .int v1), (2, .int v2), (3, .int v3)] [.int x12] (by decide +kernel) rfl rfl ?_
          exact jRetI C (by decide +kernel : decode cX11_sinNow 89 = .ok (.ireturn, 1)) (Nat.le_refl _) (Nat.le_refl _) ⟨rfl, h⟩
        · have h := it1 h c15
          refine jB C [(.bipush (-3), 2, (-3))] 66 [(4, .int x12), (0, .ref (b + v0)), (1, .int v1), (2, .int v2), (3, .int v3)] [.int (-3)] (by decide +kernel) rfl rfl ?_
          exact jRetI C (by decide +kernel : decode cX11_sinNow 66 = .ok (.ireturn, 1)) (Nat.le_refl _) (Nat.le_refl _) ⟨rfl, h⟩
      · have h := it1 h c9
        refine jB C [(.bipush (-2), 2, (-2))] 33 [(0, .ref (b + v0)), (1, .int v1), (2, .int v2), (3, .int v3)] [.int (-2)] (by decide +kernel) rfl rfl ?_
        exact jRetI C (by decide +kernel : decode cX11_sinNow 33 = .ok (.ireturn, 1)) (Nat.le_refl _) (Nat.le_refl _) ⟨rfl, h⟩
    · have h := it1 h c6
      refine jB C [(.iconst (-1), 1, (-1))] 22 [(0, .ref (b + v0)), (1, .int v1), (2, .int v2), (3, .int v3)] [.int (-1)] (by decide +kernel) rfl rfl ?_
      exact jRetI C (by decide +kernel : decode cX11_sinNow 22 = .ok (.ireturn, 1)) (Nat.le_refl _) (Nat.le_refl _) ⟨rfl, h⟩
theorem ok_X11_sinNow {G : Gm} {v0 : Nat} {v1 : Int32} {v2 : Int32} {v3 : Int32} {S : St} {Q : Int32 → St → Prop}  (t_v0 : ok G 10 v0) (h : f_X11_sinNow G v0 v1 v2 v3 Q S) : MT yX11_sinNow cX11_sinNow 5 (some .int) rm_X11_sinNow 0 0 (fun b => [.ref (b + v0), .int v1, .int v2, .int v3]) G S (QI (fun r G1 S1 => G1 = G ∧ Q r S1)) := MT.ofJ (by decide +kernel) (fun b => [(0, .ref (b + v0)), (1, .int v1), (2, .int v2), (3, .int v3)]) (fun b => rfl) (fun b => Nat.le_of_ble_eq_true rfl) (fun l b D cy p e s m below meth c C hE hn => j_X11_sinNow C hE t_v0 h)
theorem hd_X11_sinNow : yX11_sinNow.cls ≠ "java/lang/invoke/MethodHandle" ∧ yX11_sinNow.cls ≠ "java/lang/invoke/VarHandle" ∧ (parseMethodDescriptor yX11_sinNow.desc).map (fun d => d.parameters.length) = some 3 := by decide +kernel
abbrev rm_X11_exchange : Room := { frames := 0, cells := 0, slots := 0, locals := 0 }
set_option maxHeartbeats 4000000 in
set_option maxRecDepth 100000 in
theorem j_X11_exchange_2_n {p : Program} {l : Launch} {e : Env} {s : State} {m : MethodId} {args : Array Value} {below : List Frame} {meth : Method} {c : Code} {b : Nat} {D : va_G} {cy : Nat → ClassId} {G : Gm} {v0 : Nat} {v1 : Int32} {v2 : Int32} {Q : St → Prop} (C : CX p s m args meth c b D cy cX11_exchange RX11 5 none) (hE : s.heap.size + 0 ≤ b + G.2.2) (t_v0 : ok G 10 v0) : ∀ k (v3 : Int32) S, f_X11_exchange_2_n G v0 v1 v2 Q k v3 S → J p l e rm_X11_exchange s m args below meth c b D cy 5 (zV b D cy below args s G Q) 0 0 G S 2 [(0, .ref (b + v0)), (1, .int v1), (2, .int v2), (3, .int v3)] [] := by
  intro k
  induction k with
  | zero => intro v3 S h; exact h.elim
  | succ k ih =>
    intro v3 S h
    unfold f_X11_exchange_2_n at h
    refine jB C [(.iload_n 3, 1, 0), (.iconst 5, 1, 5)] 4 [(0, .ref (b + v0)), (1, .int v1), (2, .int v2), (3, .int v3)] [.int 5, .int v3] (by decide +kernel) rfl rfl ?_
    refine jIcmp_ge C 7 69 (by decide +kernel : decode cX11_exchange 4 = .ok (.if_icmp .ge 65, 3)) rfl rfl (fun c1 => ?_) (fun c1 => ?_)
    · have h := it1 h c1
      exact jRetV C (by decide +kernel : decode cX11_exchange 69 = .ok (.return_, 1)) (Nat.le_refl _) (Nat.le_refl _) ⟨rfl, h⟩
    · have h := it2 h c1
      refine jB C [(.aload_n 0, 1, 0)] 8 [(0, .ref (b + v0)), (1, .int v1), (2, .int v2), (3, .int v3)] [.ref (b + v0)] (by decide +kernel) rfl rfl ?_
      obtain ⟨a2, e_a2, h⟩ := h
      refine jGetR C 11 (by decide +kernel : decode cX11_exchange 8 = .ok (.getfield 16, 3)) rfl t_v0 kX11 4 (by decide) rfl rfl (by decide) wd_1158 e_a2 rfl (fun t_a2 => ?_)
      refine jB C [(.bipush 32, 2, 32), (.iconst 5, 1, 5), (.iload_n 1, 1, 0), (.imul, 1, 0), (.iadd, 1, 0), (.iload_n 3, 1, 0), (.iadd, 1, 0)] 19 [(0, .ref (b + v0)), (1, .int v1), (2, .int v2), (3, .int v3)] [.int ((32 + (5 * v1)) + v3), .ref (b + a2)] (by decide +kernel) rfl rfl ?_
      obtain ⟨y3, h⟩ := h
      refine jIald C 20 (by decide +kernel : decode cX11_exchange 19 = .ok (.iaload, 1)) rfl t_a2 y3 ?_
      refine jTopI (fun x4 e_x4 => ?_)
      have h := h x4 e_x4
      refine jB C [(.istore 4, 2, 0), (.aload_n 0, 1, 0)] 23 [(4, .int x4), (0, .ref (b + v0)), (1, .int v1), (2, .int v2), (3, .int v3)] [.ref (b + v0)] (by decide +kernel) rfl rfl ?_
      obtain ⟨a5, e_a5, h⟩ := h
      refine jGetR C 26 (by decide +kernel : decode cX11_exchange 23 = .ok (.getfield 16, 3)) rfl t_v0 kX11 4 (by decide) rfl rfl (by decide) wd_1158 e_a5 rfl (fun t_a5 => ?_)
      refine jB C [(.bipush 32, 2, 32), (.iconst 5, 1, 5), (.iload_n 1, 1, 0), (.imul, 1, 0), (.iadd, 1, 0), (.iload_n 3, 1, 0), (.iadd, 1, 0), (.aload_n 0, 1, 0)] 35 [(4, .int x4), (0, .ref (b + v0)), (1, .int v1), (2, .int v2), (3, .int v3)] [.ref (b + v0), .int ((32 + (5 * v1)) + v3), .ref (b + a5)] (by decide +kernel) rfl rfl ?_
      obtain ⟨a6, e_a6, h⟩ := h
      refine jGetR C 38 (by decide +kernel : decode cX11_exchange 35 = .ok (.getfield 16, 3)) rfl t_v0 kX11 4 (by decide) rfl rfl (by decide) wd_1158 e_a6 rfl (fun t_a6 => ?_)
      refine jB C [(.bipush 32, 2, 32), (.iconst 5, 1, 5), (.iload_n 2, 1, 0), (.imul, 1, 0), (.iadd, 1, 0), (.iload_n 3, 1, 0), (.iadd, 1, 0)] 46 [(4, .int x4), (0, .ref (b + v0)), (1, .int v1), (2, .int v2), (3, .int v3)] [.int ((32 + (5 * v2)) + v3), .ref (b + a6), .int ((32 + (5 * v1)) + v3), .ref (b + a5)] (by decide +kernel) rfl rfl ?_
      obtain ⟨y7, h⟩ := h
      refine jIald C 47 (by decide +kernel : decode cX11_exchange 46 = .ok (.iaload, 1)) rfl t_a6 y7 ?_
      obtain ⟨y8, h⟩ := h
      refine jIast C 48 (by decide +kernel : decode cX11_exchange 47 = .ok (.iastore, 1)) rfl hE t_a5 y8 ?_
      refine jTopS (fun S9 e_S9 => ?_)
      have h := h S9 e_S9
      refine jB C [(.aload_n 0, 1, 0)] 49 [(4, .int x4), (0, .ref (b + v0)), (1, .int v1), (2, .int v2), (3, .int v3)] [.ref (b + v0)] (by decide +kernel) rfl rfl ?_
      obtain ⟨a10, e_a10, h⟩ := h
      refine jGetR C 52 (by decide +kernel : decode cX11_exchange 49 = .ok (.getfield 16, 3)) rfl t_v0 kX11 4 (by decide) rfl rfl (by decide) wd_1158 e_a10 rfl (fun t_a10 => ?_)
      refine jB C [(.bipush 32, 2, 32), (.iconst 5, 1, 5), (.iload_n 2, 1, 0), (.imul, 1, 0), (.iadd, 1, 0), (.iload_n 3, 1, 0), (.iadd, 1, 0), (.iload 4, 2, 0)] 62 [(4, .int x4), (0, .ref (b + v0)), (1, .int v1), (2, .int v2), (3, .int v3)] [.int x4, .int ((32 + (5 * v2)) + v3), .ref (b + a10)] (by decide +kernel) rfl rfl ?_
      obtain ⟨y11, h⟩ := h
      refine jIast C 63 (by decide +kernel : decode cX11_exchange 62 = .ok (.iastore, 1)) rfl hE t_a10 y11 ?_
      refine jTopS (fun S12 e_S12 => ?_)
      have h := h S12 e_S12
      refine jB C [(.iinc 3 1, 3, 1)] 66 [(3, .int (v3 + 1)), (4, .int x4), (0, .ref (b + v0)), (1, .int v1), (2, .int v2)] [] (by decide +kernel) rfl rfl ?_
      refine jGoto C 2 (by decide +kernel : decode cX11_exchange 66 = .ok (.goto (-64), 3)) rfl ?_
      refine jSub [2, 3, 4, 0] rfl ?_
      exact ih (v3 + 1) S12 h
theorem j_X11_exchange_2 {p : Program} {l : Launch} {e : Env} {s : State} {m : MethodId} {args : Array Value} {below : List Frame} {meth : Method} {c : Code} {b : Nat} {D : va_G} {cy : Nat → ClassId} {G : Gm} {v0 : Nat} {v1 : Int32} {v2 : Int32} {v3 : Int32} {S : St} {Q : St → Prop} (C : CX p s m args meth c b D cy cX11_exchange RX11 5 none) (hE : s.heap.size + 0 ≤ b + G.2.2) (t_v0 : ok G 10 v0) (h : f_X11_exchange_2 G v0 v1 v2 Q v3 S) : J p l e rm_X11_exchange s m args below meth c b D cy 5 (zV b D cy below args s G Q) 0 0 G S 2 [(0, .ref (b + v0)), (1, .int v1), (2, .int v2), (3, .int v3)] [] := by
  obtain ⟨k, h⟩ := h
  exact j_X11_exchange_2_n C hE t_v0 k v3 S h
set_option maxHeartbeats 4000000 in
set_option maxRecDepth 100000 in
theorem j_X11_exchange {p : Program} {l : Launch} {e : Env} {s : State} {m : MethodId} {args : Array Value} {below : List Frame} {meth : Method} {c : Code} {b : Nat} {D : va_G} {cy : Nat → ClassId} {G : Gm} {v0 : Nat} {v1 : Int32} {v2 : Int32} {S : St} {Q : St → Prop} (C : CX p s m args meth c b D cy cX11_exchange RX11 5 none) (hE : s.heap.size + 0 ≤ b + G.2.2) (t_v0 : ok G 10 v0) (h : f_X11_exchange G v0 v1 v2 Q S) : J p l e rm_X11_exchange s m args below meth c b D cy 5 (zV b D cy below args s G Q) 0 0 G S 0 [(0, .ref (b + v0)), (1, .int v1), (2, .int v2)] [] := by
  unfold f_X11_exchange at h
  refine jB C [(.iconst 0, 1, 0), (.istore_n 3, 1, 0)] 2 [(3, .int 0), (0, .ref (b + v0)), (1, .int v1), (2, .int v2)] [] (by decide +kernel) rfl rfl ?_
  refine jSub [1, 2, 3, 0] rfl ?_
  exact j_X11_exchange_2 C hE t_v0 h
theorem ok_X11_exchange {G : Gm} {v0 : Nat} {v1 : Int32} {v2 : Int32} {S : St} {Q : St → Prop}  (t_v0 : ok G 10 v0) (h : f_X11_exchange G v0 v1 v2 Q S) : MT yX11_exchange cX11_exchange 5 none rm_X11_exchange 0 0 (fun b => [.ref (b + v0), .int v1, .int v2]) G S (QV (fun G1 S1 => G1 = G ∧ Q S1)) := MT.ofJ (by decide +kernel) (fun b => [(0, .ref (b + v0)), (1, .int v1), (2, .int v2)]) (fun b => rfl) (fun b => Nat.le_of_ble_eq_true rfl) (fun l b D cy p e s m below meth c C hE hn => j_X11_exchange C hE t_v0 h)
theorem hd_X11_exchange : yX11_exchange.cls ≠ "java/lang/invoke/MethodHandle" ∧ yX11_exchange.cls ≠ "java/lang/invoke/VarHandle" ∧ (parseMethodDescriptor yX11_exchange.desc).map (fun d => d.parameters.length) = some 2 := by decide +kernel
abbrev rm_X11_lensesOf : Room := { frames := 0, cells := 0, slots := 0, locals := 0 }
set_option maxHeartbeats 4000000 in
set_option maxRecDepth 100000 in
theorem j_X11_lensesOf {p : Program} {l : Launch} {e : Env} {s : State} {m : MethodId} {args : Array Value} {below : List Frame} {meth : Method} {c : Code} {b : Nat} {D : va_G} {cy : Nat → ClassId} {G : Gm} {v0 : Nat} {v1 : Int32} {S : St} {Q : Int32 → St → Prop} (C : CX p s m args meth c b D cy cX11_lensesOf RX11 2 (some .int)) (hE : s.heap.size + 0 ≤ b + G.2.2) (t_v0 : ok G 10 v0) (h : f_X11_lensesOf G v0 v1 Q S) : J p l e rm_X11_lensesOf s m args below meth c b D cy 2 (zI b D cy below args s G Q) 0 0 G S 0 [(0, .ref (b + v0)), (1, .int v1)] [] := by
  unfold f_X11_lensesOf at h
  refine jB C [(.aload_n 0, 1, 0)] 1 [(0, .ref (b + v0)), (1, .int v1)] [.ref (b + v0)] (by decide +kernel) rfl rfl ?_
  obtain ⟨a1, e_a1, h⟩ := h
  refine jGetR C 4 (by decide +kernel : decode cX11_lensesOf 1 = .ok (.getfield 16, 3)) rfl t_v0 kX11 4 (by decide) rfl rfl (by decide) wd_1158 e_a1 rfl (fun t_a1 => ?_)
  refine jB C [(.bipush 32, 2, 32), (.iconst 5, 1, 5), (.iload_n 1, 1, 0), (.imul, 1, 0), (.iadd, 1, 0)] 10 [(0, .ref (b + v0)), (1, .int v1)] [.int (32 + (5 * v1)), .ref (b + a1)] (by decide +kernel) rfl rfl ?_
  obtain ⟨y2, h⟩ := h
  refine jIald C 11 (by decide +kernel : decode cX11_lensesOf 10 = .ok (.iaload, 1)) rfl t_a1 y2 ?_
  exact jRetI C (by decide +kernel : decode cX11_lensesOf 11 = .ok (.ireturn, 1)) (Nat.le_refl _) (Nat.le_refl _) ⟨rfl, h⟩
theorem ok_X11_lensesOf {G : Gm} {v0 : Nat} {v1 : Int32} {S : St} {Q : Int32 → St → Prop}  (t_v0 : ok G 10 v0) (h : f_X11_lensesOf G v0 v1 Q S) : MT yX11_lensesOf cX11_lensesOf 2 (some .int) rm_X11_lensesOf 0 0 (fun b => [.ref (b + v0), .int v1]) G S (QI (fun r G1 S1 => G1 = G ∧ Q r S1)) := MT.ofJ (by decide +kernel) (fun b => [(0, .ref (b + v0)), (1, .int v1)]) (fun b => rfl) (fun b => Nat.le_of_ble_eq_true rfl) (fun l b D cy p e s m below meth c C hE hn => j_X11_lensesOf C hE t_v0 h)
theorem hd_X11_lensesOf : yX11_lensesOf.cls ≠ "java/lang/invoke/MethodHandle" ∧ yX11_lensesOf.cls ≠ "java/lang/invoke/VarHandle" ∧ (parseMethodDescriptor yX11_lensesOf.desc).map (fun d => d.parameters.length) = some 1 := by decide +kernel
abbrev rm_X11_swapNow : Room := { frames := 2, cells := 0, slots := 0, locals := 46 }
set_option maxHeartbeats 4000000 in
set_option maxRecDepth 100000 in
theorem j_X11_swapNow {p : Program} {l : Launch} {e : Env} {s : State} {m : MethodId} {args : Array Value} {below : List Frame} {meth : Method} {c : Code} {b : Nat} {D : va_G} {cy : Nat → ClassId} {G : Gm} {v0 : Nat} {v1 : Int32} {v2 : Int32} {S : St} {Q : Int32 → St → Prop} (C : CX p s m args meth c b D cy cX11_swapNow RX11 3 (some .int)) (hE : s.heap.size + 0 ≤ b + G.2.2) (t_v0 : ok G 10 v0) (h : f_X11_swapNow G v0 v1 v2 Q S) : J p l e rm_X11_swapNow s m args below meth c b D cy 3 (zI b D cy below args s G Q) 0 0 G S 0 [(0, .ref (b + v0)), (1, .int v1), (2, .int v2)] [] := by
  unfold f_X11_swapNow at h
  refine jB C [(.iload_n 1, 1, 0), (.iload_n 2, 1, 0)] 2 [(0, .ref (b + v0)), (1, .int v1), (2, .int v2)] [.int v2, .int v1] (by decide +kernel) rfl rfl ?_
  refine jIcmp_ne C 5 7 (by decide +kernel : decode cX11_swapNow 2 = .ok (.if_icmp .ne 5, 3)) rfl rfl (fun c1 => ?_) (fun c1 => ?_)
  · have h := it2 h c1
    refine jB C [(.aload_n 0, 1, 0), (.iload_n 1, 1, 0)] 9 [(0, .ref (b + v0)), (1, .int v1), (2, .int v2)] [.int v1, .ref (b + v0)] (by decide +kernel) rfl rfl ?_
    refine jcV_I C 12 (rest := []) (ok_X11_isPerson t_v0 h) (by decide +kernel : decode cX11_swapNow 9 = .ok (.invokevirtual 209, 3)) rfl wd_1376 wd_1378 wp_103 wd_12 wd_1379 ⟨rfl, rfl⟩ hd_X11_isPerson ⟨Nat.le_of_ble_eq_true rfl, Nat.le_of_ble_eq_true rfl⟩ t_v0 kX11 (by decide) rfl rfl rfl (Nat.le_of_ble_eq_true rfl) ⟨Nat.zero_le _, Nat.zero_le _⟩ (fun r3 S2 h => ?_)
    refine jIf_eq C 15 23 (by decide +kernel : decode cX11_swapNow 12 = .ok (.ifCond .eq 11, 3)) rfl rfl (fun c4 => ?_) (fun c4 => ?_)
    · have h := it1 h c4
      refine jB C [(.bipush (-2), 2, (-2))] 25 [(0, .ref (b + v0)), (1, .int v1), (2, .int v2)] [.int (-2)] (by decide +kernel) rfl rfl ?_
      exact jRetI C (by decide +kernel : decode cX11_swapNow 25 = .ok (.ireturn, 1)) (Nat.le_refl _) (Nat.le_refl _) ⟨rfl, h⟩
    · have h := it2 h c4
      refine jB C [(.aload_n 0, 1, 0), (.iload_n 2, 1, 0)] 17 [(0, .ref (b + v0)), (1, .int v1), (2, .int v2)] [.int v2, .ref (b + v0)] (by decide +kernel) rfl rfl ?_
      refine jcV_I C 20 (rest := []) (ok_X11_isPerson t_v0 h) (by decide +kernel : decode cX11_swapNow 17 = .ok (.invokevirtual 209, 3)) rfl wd_1376 wd_1378 wp_103 wd_12 wd_1379 ⟨rfl, rfl⟩ hd_X11_isPerson ⟨Nat.le_of_ble_eq_true rfl, Nat.le_of_ble_eq_true rfl⟩ t_v0 kX11 (by decide) rfl rfl rfl (Nat.le_of_ble_eq_true rfl) ⟨Nat.zero_le _, Nat.zero_le _⟩ (fun r6 S5 h => ?_)
      refine jIf_ne C 23 26 (by decide +kernel : decode cX11_swapNow 20 = .ok (.ifCond .ne 6, 3)) rfl rfl (fun c7 => ?_) (fun c7 => ?_)
      · have h := it2 h c7
        refine jB C [(.aload_n 0, 1, 0), (.iconst 2, 1, 2)] 28 [(0, .ref (b + v0)), (1, .int v1), (2, .int v2)] [.int 2, .ref (b + v0)] (by decide +kernel) rfl rfl ?_
        refine jcV_V C 31 (rest := []) (ok_X11_remember t_v0 h) (by decide +kernel : decode cX11_swapNow 28 = .ok (.invokevirtual 464, 3)) rfl wd_1647 wd_1649 wp_144 wd_12 wd_1650 ⟨rfl, rfl⟩ hd_X11_remember ⟨Nat.le_of_ble_eq_true rfl, Nat.le_of_ble_eq_true rfl⟩ t_v0 kX11 (by decide) rfl rfl rfl (Nat.le_of_ble_eq_true rfl) ⟨Nat.zero_le _, Nat.zero_le _⟩ (fun S8 h => ?_)
        refine jB C [(.aload_n 0, 1, 0), (.iload_n 1, 1, 0), (.iload_n 2, 1, 0)] 34 [(0, .ref (b + v0)), (1, .int v1), (2, .int v2)] [.int v2, .int v1, .ref (b + v0)] (by decide +kernel) rfl rfl ?_
        refine jcV_V C 37 (rest := []) (ok_X11_exchange t_v0 h) (by decide +kernel : decode cX11_swapNow 34 = .ok (.invokevirtual 480, 3)) rfl wd_1679 wd_1681 wp_150 wd_12 wd_1682 ⟨rfl, rfl⟩ hd_X11_exchange ⟨Nat.le_of_ble_eq_true rfl, Nat.le_of_ble_eq_true rfl⟩ t_v0 kX11 (by decide) rfl rfl rfl (Nat.le_of_ble_eq_true rfl) ⟨Nat.zero_le _, Nat.zero_le _⟩ (fun S9 h => ?_)
        refine jB C [(.aload_n 0, 1, 0), (.iload_n 1, 1, 0)] 39 [(0, .ref (b + v0)), (1, .int v1), (2, .int v2)] [.int v1, .ref (b + v0)] (by decide +kernel) rfl rfl ?_
        refine jcV_I C 42 (rest := []) (ok_X11_lensesOf t_v0 h) (by decide +kernel : decode cX11_swapNow 39 = .ok (.invokevirtual 196, 3)) rfl wd_1382 wd_1384 wp_104 wd_12 wd_1385 ⟨rfl, rfl⟩ hd_X11_lensesOf ⟨Nat.le_of_ble_eq_true rfl, Nat.le_of_ble_eq_true rfl⟩ t_v0 kX11 (by decide) rfl rfl rfl (Nat.le_of_ble_eq_true rfl) ⟨Nat.zero_le _, Nat.zero_le _⟩ (fun r11 S10 h => ?_)
        refine jB C [(.aload_n 0, 1, 0), (.iload_n 2, 1, 0)] 44 [(0, .ref (b + v0)), (1, .int v1), (2, .int v2)] [.int v2, .ref (b + v0), .int r11] (by decide +kernel) rfl rfl ?_
        refine jcV_I C 47 (rest := [.int r11]) (ok_X11_lensesOf t_v0 h) (by decide +kernel : decode cX11_swapNow 44 = .ok (.invokevirtual 196, 3)) rfl wd_1382 wd_1384 wp_104 wd_12 wd_1385 ⟨rfl, rfl⟩ hd_X11_lensesOf ⟨Nat.le_of_ble_eq_true rfl, Nat.le_of_ble_eq_true rfl⟩ t_v0 kX11 (by decide) rfl rfl rfl (Nat.le_of_ble_eq_true rfl) ⟨Nat.zero_le _, Nat.zero_le _⟩ (fun r13 S12 h => ?_)
        refine jB C [(.iadd, 1, 0)] 48 [(0, .ref (b + v0)), (1, .int v1), (2, .int v2)] [.int (r11 + r13)] (by decide +kernel) rfl rfl ?_
        exact jRetI C (by decide +kernel : decode cX11_swapNow 48 = .ok (.ireturn, 1)) (Nat.le_refl _) (Nat.le_refl _) ⟨rfl, h⟩
      · have h := it1 h c7
        refine jB C [(.bipush (-2), 2, (-2))] 25 [(0, .ref (b + v0)), (1, .int v1), (2, .int v2)] [.int (-2)] (by decide +kernel) rfl rfl ?_
        exact jRetI C (by decide +kernel : decode cX11_swapNow 25 = .ok (.ireturn, 1)) (Nat.le_refl _) (Nat.le_refl _) ⟨rfl, h⟩
  · have h := it1 h c1
    refine jB C [(.iconst (-1), 1, (-1))] 6 [(0, .ref (b + v0)), (1, .int v1), (2, .int v2)] [.int (-1)] (by decide +kernel) rfl rfl ?_
    exact jRetI C (by decide +kernel : decode cX11_swapNow 6 = .ok (.ireturn, 1)) (Nat.le_refl _) (Nat.le_refl _) ⟨rfl, h⟩
theorem ok_X11_swapNow {G : Gm} {v0 : Nat} {v1 : Int32} {v2 : Int32} {S : St} {Q : Int32 → St → Prop}  (t_v0 : ok G 10 v0) (h : f_X11_swapNow G v0 v1 v2 Q S) : MT yX11_swapNow cX11_swapNow 3 (some .int) rm_X11_swapNow 0 0 (fun b => [.ref (b + v0), .int v1, .int v2]) G S (QI (fun r G1 S1 => G1 = G ∧ Q r S1)) := MT.ofJ (by decide +kernel) (fun b => [(0, .ref (b + v0)), (1, .int v1), (2, .int v2)]) (fun b => rfl) (fun b => Nat.le_of_ble_eq_true rfl) (fun l b D cy p e s m below meth c C hE hn => j_X11_swapNow C hE t_v0 h)
theorem hd_X11_swapNow : yX11_swapNow.cls ≠ "java/lang/invoke/MethodHandle" ∧ yX11_swapNow.cls ≠ "java/lang/invoke/VarHandle" ∧ (parseMethodDescriptor yX11_swapNow.desc).map (fun d => d.parameters.length) = some 2 := by decide +kernel
abbrev rm_X11_through : Room := { frames := 1, cells := 0, slots := 0, locals := 21 }
set_option maxHeartbeats 4000000 in
set_option maxRecDepth 100000 in
theorem j_X11_through_5_n {p : Program} {l : Launch} {e : Env} {s : State} {m : MethodId} {args : Array Value} {below : List Frame} {meth : Method} {c : Code} {b : Nat} {D : va_G} {cy : Nat → ClassId} {G : Gm} {v0 : Nat} {v1 : Int32} {Q : Int32 → St → Prop} (C : CX p s m args meth c b D cy cX11_through RX11 5 (some .int)) (hE : s.heap.size + 0 ≤ b + G.2.2) (t_v0 : ok G 10 v0) : ∀ k (v3 : Int32) (v4 : Int32) S, f_X11_through_5_n G v0 v1 Q k v3 v4 S → J p l e rm_X11_through s m args below meth c b D cy 5 (zI b D cy below args s G Q) 0 0 G S 5 [(0, .ref (b + v0)), (1, .int v1), (3, .int v3), (4, .int v4)] [] := by
  intro k
  induction k with
  | zero => intro v3 v4 S h; exact h.elim
  | succ k ih =>
    intro v3 v4 S h
    unfold f_X11_through_5_n at h
    refine jB C [(.iload 4, 2, 0), (.aload_n 0, 1, 0), (.iload_n 1, 1, 0)] 9 [(0, .ref (b + v0)), (1, .int v1), (3, .int v3), (4, .int v4)] [.int v1, .ref (b + v0), .int v4] (by decide +kernel) rfl rfl ?_
    refine jcV_I C 12 (rest := [.int v4]) (ok_X11_lensesOf t_v0 h) (by decide +kernel : decode cX11_through 9 = .ok (.invokevirtual 196, 3)) rfl wd_1382 wd_1384 wp_104 wd_12 wd_1385 ⟨rfl, rfl⟩ hd_X11_lensesOf ⟨Nat.le_of_ble_eq_true rfl, Nat.le_of_ble_eq_true rfl⟩ t_v0 kX11 (by decide) rfl rfl rfl (Nat.le_of_ble_eq_true rfl) ⟨Nat.zero_le _, Nat.zero_le _⟩ (fun r2 S1 h => ?_)
    refine jIcmp_ge C 15 49 (by decide +kernel : decode cX11_through 12 = .ok (.if_icmp .ge 37, 3)) rfl rfl (fun c3 => ?_) (fun c3 => ?_)
    · have h := it1 h c3
      refine jB C [(.iload_n 3, 1, 0)] 50 [(0, .ref (b + v0)), (1, .int v1), (3, .int v3), (4, .int v4)] [.int v3] (by decide +kernel) rfl rfl ?_
      exact jRetI C (by decide +kernel : decode cX11_through 50 = .ok (.ireturn, 1)) (Nat.le_refl _) (Nat.le_refl _) ⟨rfl, h⟩
    · have h := it2 h c3
      refine jB C [(.aload_n 0, 1, 0)] 16 [(0, .ref (b + v0)), (1, .int v1), (3, .int v3), (4, .int v4)] [.ref (b + v0)] (by decide +kernel) rfl rfl ?_
      obtain ⟨a4, e_a4, h⟩ := h
      refine jGetR C 19 (by decide +kernel : decode cX11_through 16 = .ok (.getfield 13, 3)) rfl t_v0 kX11 3 (by decide) rfl rfl (by decide) wd_1157 e_a4 rfl (fun t_a4 => ?_)
      refine jB C [(.sipush 256, 3, 256), (.aload_n 0, 1, 0)] 23 [(0, .ref (b + v0)), (1, .int v1), (3, .int v3), (4, .int v4)] [.ref (b + v0), .int 256, .ref (b + a4)] (by decide +kernel) rfl rfl ?_
      obtain ⟨a5, e_a5, h⟩ := h
      refine jGetR C 26 (by decide +kernel : decode cX11_through 23 = .ok (.getfield 16, 3)) rfl t_v0 kX11 4 (by decide) rfl rfl (by decide) wd_1158 e_a5 rfl (fun t_a5 => ?_)
      refine jB C [(.bipush 32, 2, 32), (.iconst 5, 1, 5), (.iload_n 1, 1, 0), (.imul, 1, 0), (.iadd, 1, 0), (.iconst 1, 1, 1), (.iadd, 1, 0), (.iload 4, 2, 0), (.iadd, 1, 0)] 37 [(0, .ref (b + v0)), (1, .int v1), (3, .int v3), (4, .int v4)] [.int (((32 + (5 * v1)) + 1) + v4), .ref (b + a5), .int 256, .ref (b + a4)] (by decide +kernel) rfl rfl ?_
      obtain ⟨y6, h⟩ := h
      refine jIald C 38 (by decide +kernel : decode cX11_through 37 = .ok (.iaload, 1)) rfl t_a5 y6 ?_
      refine jB C [(.imul, 1, 0), (.iload_n 3, 1, 0), (.iadd, 1, 0)] 41 [(0, .ref (b + v0)), (1, .int v1), (3, .int v3), (4, .int v4)] [.int ((256 * (S1.1 a5 (((32 + (5 * v1)) + 1) + v4).toNatClampNeg)) + v3), .ref (b + a4)] (by decide +kernel) rfl rfl ?_
      obtain ⟨y7, h⟩ := h
      refine jIald C 42 (by decide +kernel : decode cX11_through 41 = .ok (.iaload, 1)) rfl t_a4 y7 ?_
      refine jTopI (fun x8 e_x8 => ?_)
      have h := h x8 e_x8
      refine jB C [(.istore_n 3, 1, 0), (.iinc 4 1, 3, 1)] 46 [(4, .int (v4 + 1)), (3, .int x8), (0, .ref (b + v0)), (1, .int v1)] [] (by decide +kernel) rfl rfl ?_
      refine jGoto C 5 (by decide +kernel : decode cX11_through 46 = .ok (.goto (-41), 3)) rfl ?_
      refine jSub [2, 3, 1, 0] rfl ?_
      exact ih x8 (v4 + 1) S1 h
theorem j_X11_through_5 {p : Program} {l : Launch} {e : Env} {s : State} {m : MethodId} {args : Array Value} {below : List Frame} {meth : Method} {c : Code} {b : Nat} {D : va_G} {cy : Nat → ClassId} {G : Gm} {v0 : Nat} {v1 : Int32} {v3 : Int32} {v4 : Int32} {S : St} {Q : Int32 → St → Prop} (C : CX p s m args meth c b D cy cX11_through RX11 5 (some .int)) (hE : s.heap.size + 0 ≤ b + G.2.2) (t_v0 : ok G 10 v0) (h : f_X11_through_5 G v0 v1 Q v3 v4 S) : J p l e rm_X11_through s m args below meth c b D cy 5 (zI b D cy below args s G Q) 0 0 G S 5 [(0, .ref (b + v0)), (1, .int v1), (3, .int v3), (4, .int v4)] [] := by
  obtain ⟨k, h⟩ := h
  exact j_X11_through_5_n C hE t_v0 k v3 v4 S h
set_option maxHeartbeats 4000000 in
set_option maxRecDepth 100000 in
theorem j_X11_through {p : Program} {l : Launch} {e : Env} {s : State} {m : MethodId} {args : Array Value} {below : List Frame} {meth : Method} {c : Code} {b : Nat} {D : va_G} {cy : Nat → ClassId} {G : Gm} {v0 : Nat} {v1 : Int32} {v2 : Int32} {S : St} {Q : Int32 → St → Prop} (C : CX p s m args meth c b D cy cX11_through RX11 5 (some .int)) (hE : s.heap.size + 0 ≤ b + G.2.2) (t_v0 : ok G 10 v0) (h : f_X11_through G v0 v1 v2 Q S) : J p l e rm_X11_through s m args below meth c b D cy 5 (zI b D cy below args s G Q) 0 0 G S 0 [(0, .ref (b + v0)), (1, .int v1), (2, .int v2)] [] := by
  unfold f_X11_through at h
  refine jB C [(.iload_n 2, 1, 0), (.istore_n 3, 1, 0), (.iconst 0, 1, 0), (.istore 4, 2, 0)] 5 [(4, .int 0), (3, .int v2), (0, .ref (b + v0)), (1, .int v1), (2, .int v2)] [] (by decide +kernel) rfl rfl ?_
  refine jSub [2, 3, 1, 0] rfl ?_
  exact j_X11_through_5 C hE t_v0 h
theorem ok_X11_through {G : Gm} {v0 : Nat} {v1 : Int32} {v2 : Int32} {S : St} {Q : Int32 → St → Prop}  (t_v0 : ok G 10 v0) (h : f_X11_through G v0 v1 v2 Q S) : MT yX11_through cX11_through 5 (some .int) rm_X11_through 0 0 (fun b => [.ref (b + v0), .int v1, .int v2]) G S (QI (fun r G1 S1 => G1 = G ∧ Q r S1)) := MT.ofJ (by decide +kernel) (fun b => [(0, .ref (b + v0)), (1, .int v1), (2, .int v2)]) (fun b => rfl) (fun b => Nat.le_of_ble_eq_true rfl) (fun l b D cy p e s m below meth c C hE hn => j_X11_through C hE t_v0 h)
theorem hd_X11_through : yX11_through.cls ≠ "java/lang/invoke/MethodHandle" ∧ yX11_through.cls ≠ "java/lang/invoke/VarHandle" ∧ (parseMethodDescriptor yX11_through.desc).map (fun d => d.parameters.length) = some 2 := by decide +kernel
abbrev rm_X11_sightOf : Room := { frames := 2, cells := 0, slots := 0, locals := 45 }
set_option maxHeartbeats 4000000 in
set_option maxRecDepth 100000 in
theorem j_X11_sightOf {p : Program} {l : Launch} {e : Env} {s : State} {m : MethodId} {args : Array Value} {below : List Frame} {meth : Method} {c : Code} {b : Nat} {D : va_G} {cy : Nat → ClassId} {G : Gm} {v0 : Nat} {v1 : Int32} {S : St} {Q : Int32 → St → Prop} (C : CX p s m args meth c b D cy cX11_sightOf RX11 2 (some .int)) (hE : s.heap.size + 0 ≤ b + G.2.2) (t_v0 : ok G 10 v0) (h : f_X11_sightOf G v0 v1 Q S) : J p l e rm_X11_sightOf s m args below meth c b D cy 2 (zI b D cy below args s G Q) 0 0 G S 0 [(0, .ref (b + v0)), (1, .int v1)] [] := by
  unfold f_X11_sightOf at h
  refine jB C [(.aload_n 0, 1, 0), (.iload_n 1, 1, 0), (.aload_n 0, 1, 0)] 3 [(0, .ref (b + v0)), (1, .int v1)] [.ref (b + v0), .int v1, .ref (b + v0)] (by decide +kernel) rfl rfl ?_
  obtain ⟨a1, e_a1, h⟩ := h
  refine jGetR C 6 (by decide +kernel : decode cX11_sightOf 3 = .ok (.getfield 16, 3)) rfl t_v0 kX11 4 (by decide) rfl rfl (by decide) wd_1158 e_a1 rfl (fun t_a1 => ?_)
  refine jB C [(.bipush 7, 2, 7)] 8 [(0, .ref (b + v0)), (1, .int v1)] [.int 7, .ref (b + a1), .int v1, .ref (b + v0)] (by decide +kernel) rfl rfl ?_
  obtain ⟨y2, h⟩ := h
  refine jIald C 9 (by decide +kernel : decode cX11_sightOf 8 = .ok (.iaload, 1)) rfl t_a1 y2 ?_
  refine jcV_I C 12 (rest := []) (ok_X11_through t_v0 h) (by decide +kernel : decode cX11_sightOf 9 = .ok (.invokevirtual 199, 3)) rfl wd_1390 wd_1392 wp_106 wd_12 wd_1393 ⟨rfl, rfl⟩ hd_X11_through ⟨Nat.le_of_ble_eq_true rfl, Nat.le_of_ble_eq_true rfl⟩ t_v0 kX11 (by decide) rfl rfl rfl (Nat.le_of_ble_eq_true rfl) ⟨Nat.zero_le _, Nat.zero_le _⟩ (fun r4 S3 h => ?_)
  exact jRetI C (by decide +kernel : decode cX11_sightOf 12 = .ok (.ireturn, 1)) (Nat.le_refl _) (Nat.le_refl _) ⟨rfl, h⟩
theorem ok_X11_sightOf {G : Gm} {v0 : Nat} {v1 : Int32} {S : St} {Q : Int32 → St → Prop}  (t_v0 : ok G 10 v0) (h : f_X11_sightOf G v0 v1 Q S) : MT yX11_sightOf cX11_sightOf 2 (some .int) rm_X11_sightOf 0 0 (fun b => [.ref (b + v0), .int v1]) G S (QI (fun r G1 S1 => G1 = G ∧ Q r S1)) := MT.ofJ (by decide +kernel) (fun b => [(0, .ref (b + v0)), (1, .int v1)]) (fun b => rfl) (fun b => Nat.le_of_ble_eq_true rfl) (fun l b D cy p e s m below meth c C hE hn => j_X11_sightOf C hE t_v0 h)
theorem hd_X11_sightOf : yX11_sightOf.cls ≠ "java/lang/invoke/MethodHandle" ∧ yX11_sightOf.cls ≠ "java/lang/invoke/VarHandle" ∧ (parseMethodDescriptor yX11_sightOf.desc).map (fun d => d.parameters.length) = some 1 := by decide +kernel
abbrev rm_X11_sinsOf : Room := { frames := 0, cells := 0, slots := 0, locals := 0 }
set_option maxHeartbeats 4000000 in
set_option maxRecDepth 100000 in
theorem j_X11_sinsOf_4_n {p : Program} {l : Launch} {e : Env} {s : State} {m : MethodId} {args : Array Value} {below : List Frame} {meth : Method} {c : Code} {b : Nat} {D : va_G} {cy : Nat → ClassId} {G : Gm} {v0 : Nat} {v1 : Int32} {Q : Int32 → St → Prop} (C : CX p s m args meth c b D cy cX11_sinsOf RX11 4 (some .int)) (hE : s.heap.size + 0 ≤ b + G.2.2) (t_v0 : ok G 10 v0) : ∀ k (v2 : Int32) (v3 : Int32) S, f_X11_sinsOf_4_n G v0 v1 Q k v2 v3 S → J p l e rm_X11_sinsOf s m args below meth c b D cy 4 (zI b D cy below args s G Q) 0 0 G S 4 [(0, .ref (b + v0)), (1, .int v1), (2, .int v2), (3, .int v3)] [] := by
  intro k
  induction k with
  | zero => intro v2 v3 S h; exact h.elim
  | succ k ih =>
    intro v2 v3 S h
    unfold f_X11_sinsOf_4_n at h
    refine jB C [(.iload_n 3, 1, 0), (.iconst 4, 1, 4)] 6 [(0, .ref (b + v0)), (1, .int v1), (2, .int v2), (3, .int v3)] [.int 4, .int v3] (by decide +kernel) rfl rfl ?_
    refine jIcmp_ge C 9 31 (by decide +kernel : decode cX11_sinsOf 6 = .ok (.if_icmp .ge 25, 3)) rfl rfl (fun c1 => ?_) (fun c1 => ?_)
    · have h := it1 h c1
      refine jB C [(.iload_n 2, 1, 0)] 32 [(0, .ref (b + v0)), (1, .int v1), (2, .int v2), (3, .int v3)] [.int v2] (by decide +kernel) rfl rfl ?_
      exact jRetI C (by decide +kernel : decode cX11_sinsOf 32 = .ok (.ireturn, 1)) (Nat.le_refl _) (Nat.le_refl _) ⟨rfl, h⟩
    · have h := it2 h c1
      refine jB C [(.iload_n 2, 1, 0), (.aload_n 0, 1, 0)] 11 [(0, .ref (b + v0)), (1, .int v1), (2, .int v2), (3, .int v3)] [.ref (b + v0), .int v2] (by decide +kernel) rfl rfl ?_
      obtain ⟨a2, e_a2, h⟩ := h
      refine jGetR C 14 (by decide +kernel : decode cX11_sinsOf 11 = .ok (.getfield 16, 3)) rfl t_v0 kX11 4 (by decide) rfl rfl (by decide) wd_1158 e_a2 rfl (fun t_a2 => ?_)
      refine jB C [(.bipush 8, 2, 8), (.iconst 4, 1, 4), (.iload_n 1, 1, 0), (.imul, 1, 0), (.iadd, 1, 0), (.iload_n 3, 1, 0), (.iadd, 1, 0)] 22 [(0, .ref (b + v0)), (1, .int v1), (2, .int v2), (3, .int v3)] [.int ((8 + (4 * v1)) + v3), .ref (b + a2), .int v2] (by decide +kernel) rfl rfl ?_
      obtain ⟨y3, h⟩ := h
      refine jIald C 23 (by decide +kernel : decode cX11_sinsOf 22 = .ok (.iaload, 1)) rfl t_a2 y3 ?_
      refine jB C [(.iadd, 1, 0)] 24 [(0, .ref (b + v0)), (1, .int v1), (2, .int v2), (3, .int v3)] [.int (v2 + (S.1 a2 ((8 + (4 * v1)) + v3).toNatClampNeg))] (by decide +kernel) rfl rfl ?_
      refine jTopI (fun x4 e_x4 => ?_)
      have h := h x4 e_x4
      refine jB C [(.istore_n 2, 1, 0), (.iinc 3 1, 3, 1)] 28 [(3, .int (v3 + 1)), (2, .int x4), (0, .ref (b + v0)), (1, .int v1)] [] (by decide +kernel) rfl rfl ?_
      refine jGoto C 4 (by decide +kernel : decode cX11_sinsOf 28 = .ok (.goto (-24), 3)) rfl ?_
      refine jSub [2, 3, 1, 0] rfl ?_
      exact ih x4 (v3 + 1) S h
theorem j_X11_sinsOf_4 {p : Program} {l : Launch} {e : Env} {s : State} {m : MethodId} {args : Array Value} {below : List Frame} {meth : Method} {c : Code} {b : Nat} {D : va_G} {cy : Nat → ClassId} {G : Gm} {v0 : Nat} {v1 : Int32} {v2 : Int32} {v3 : Int32} {S : St} {Q : Int32 → St → Prop} (C : CX p s m args meth c b D cy cX11_sinsOf RX11 4 (some .int)) (hE : s.heap.size + 0 ≤ b + G.2.2) (t_v0 : ok G 10 v0) (h : f_X11_sinsOf_4 G v0 v1 Q v2 v3 S) : J p l e rm_X11_sinsOf s m args below meth c b D cy 4 (zI b D cy below args s G Q) 0 0 G S 4 [(0, .ref (b + v0)), (1, .int v1), (2, .int v2), (3, .int v3)] [] := by
  obtain ⟨k, h⟩ := h
  exact j_X11_sinsOf_4_n C hE t_v0 k v2 v3 S h
set_option maxHeartbeats 4000000 in
set_option maxRecDepth 100000 in
theorem j_X11_sinsOf {p : Program} {l : Launch} {e : Env} {s : State} {m : MethodId} {args : Array Value} {below : List Frame} {meth : Method} {c : Code} {b : Nat} {D : va_G} {cy : Nat → ClassId} {G : Gm} {v0 : Nat} {v1 : Int32} {S : St} {Q : Int32 → St → Prop} (C : CX p s m args meth c b D cy cX11_sinsOf RX11 4 (some .int)) (hE : s.heap.size + 0 ≤ b + G.2.2) (t_v0 : ok G 10 v0) (h : f_X11_sinsOf G v0 v1 Q S) : J p l e rm_X11_sinsOf s m args below meth c b D cy 4 (zI b D cy below args s G Q) 0 0 G S 0 [(0, .ref (b + v0)), (1, .int v1)] [] := by
  unfold f_X11_sinsOf at h
  refine jB C [(.iconst 0, 1, 0), (.istore_n 2, 1, 0), (.iconst 0, 1, 0), (.istore_n 3, 1, 0)] 4 [(3, .int 0), (2, .int 0), (0, .ref (b + v0)), (1, .int v1)] [] (by decide +kernel) rfl rfl ?_
  refine jSub [2, 3, 1, 0] rfl ?_
  exact j_X11_sinsOf_4 C hE t_v0 h
theorem ok_X11_sinsOf {G : Gm} {v0 : Nat} {v1 : Int32} {S : St} {Q : Int32 → St → Prop}  (t_v0 : ok G 10 v0) (h : f_X11_sinsOf G v0 v1 Q S) : MT yX11_sinsOf cX11_sinsOf 4 (some .int) rm_X11_sinsOf 0 0 (fun b => [.ref (b + v0), .int v1]) G S (QI (fun r G1 S1 => G1 = G ∧ Q r S1)) := MT.ofJ (by decide +kernel) (fun b => [(0, .ref (b + v0)), (1, .int v1)]) (fun b => rfl) (fun b => Nat.le_of_ble_eq_true rfl) (fun l b D cy p e s m below meth c C hE hn => j_X11_sinsOf C hE t_v0 h)
theorem hd_X11_sinsOf : yX11_sinsOf.cls ≠ "java/lang/invoke/MethodHandle" ∧ yX11_sinsOf.cls ≠ "java/lang/invoke/VarHandle" ∧ (parseMethodDescriptor yX11_sinsOf.desc).map (fun d => d.parameters.length) = some 1 := by decide +kernel
abbrev rm_X11_litOf : Room := { frames := 0, cells := 0, slots := 0, locals := 0 }
set_option maxHeartbeats 4000000 in
set_option maxRecDepth 100000 in
theorem j_X11_litOf_4_n {p : Program} {l : Launch} {e : Env} {s : State} {m : MethodId} {args : Array Value} {below : List Frame} {meth : Method} {c : Code} {b : Nat} {D : va_G} {cy : Nat → ClassId} {G : Gm} {v0 : Int32} {Q : Int32 → St → Prop} (C : CX p s m args meth c b D cy cX11_litOf RX11 3 (some .int)) (hE : s.heap.size + 0 ≤ b + G.2.2) : ∀ k (v1 : Int32) (v2 : Int32) S, f_X11_litOf_4_n G v0 Q k v1 v2 S → J p l e rm_X11_litOf s m args below meth c b D cy 3 (zI b D cy below args s G Q) 0 0 G S 4 [(0, .int v0), (1, .int v1), (2, .int v2)] [] := by
  intro k
  induction k with
  | zero => intro v1 v2 S h; exact h.elim
  | succ k ih =>
    intro v1 v2 S h
    unfold f_X11_litOf_4_n at h
    refine jB C [(.iload_n 2, 1, 0), (.bipush 8, 2, 8)] 7 [(0, .int v0), (1, .int v1), (2, .int v2)] [.int 8, .int v2] (by decide +kernel) rfl rfl ?_
    refine jIcmp_ge C 10 24 (by decide +kernel : decode cX11_litOf 7 = .ok (.if_icmp .ge 17, 3)) rfl rfl (fun c1 => ?_) (fun c1 => ?_)
    · have h := it1 h c1
      refine jB C [(.iload_n 1, 1, 0)] 25 [(0, .int v0), (1, .int v1), (2, .int v2)] [.int v1] (by decide +kernel) rfl rfl ?_
      exact jRetI C (by decide +kernel : decode cX11_litOf 25 = .ok (.ireturn, 1)) (Nat.le_refl _) (Nat.le_refl _) ⟨rfl, h⟩
    · have h := it2 h c1
      refine jB C [(.iload_n 1, 1, 0), (.iload_n 0, 1, 0), (.iload_n 2, 1, 0), (.ishr, 1, 0), (.iconst 1, 1, 1), (.iand, 1, 0), (.iadd, 1, 0)] 17 [(0, .int v0), (1, .int v1), (2, .int v2)] [.int (v1 + ((v0 >>> ((v2 : Int32) &&& 31)) &&& 1))] (by decide +kernel) rfl rfl ?_
      refine jTopI (fun x2 e_x2 => ?_)
      have h := h x2 e_x2
      refine jB C [(.istore_n 1, 1, 0), (.iinc 2 1, 3, 1)] 21 [(2, .int (v2 + 1)), (1, .int x2), (0, .int v0)] [] (by decide +kernel) rfl rfl ?_
      refine jGoto C 4 (by decide +kernel : decode cX11_litOf 21 = .ok (.goto (-17), 3)) rfl ?_
      refine jSub [2, 1, 0] rfl ?_
      exact ih x2 (v2 + 1) S h
theorem j_X11_litOf_4 {p : Program} {l : Launch} {e : Env} {s : State} {m : MethodId} {args : Array Value} {below : List Frame} {meth : Method} {c : Code} {b : Nat} {D : va_G} {cy : Nat → ClassId} {G : Gm} {v0 : Int32} {v1 : Int32} {v2 : Int32} {S : St} {Q : Int32 → St → Prop} (C : CX p s m args meth c b D cy cX11_litOf RX11 3 (some .int)) (hE : s.heap.size + 0 ≤ b + G.2.2) (h : f_X11_litOf_4 G v0 Q v1 v2 S) : J p l e rm_X11_litOf s m args below meth c b D cy 3 (zI b D cy below args s G Q) 0 0 G S 4 [(0, .int v0), (1, .int v1), (2, .int v2)] [] := by
  obtain ⟨k, h⟩ := h
  exact j_X11_litOf_4_n C hE k v1 v2 S h
set_option maxHeartbeats 4000000 in
set_option maxRecDepth 100000 in
theorem j_X11_litOf {p : Program} {l : Launch} {e : Env} {s : State} {m : MethodId} {args : Array Value} {below : List Frame} {meth : Method} {c : Code} {b : Nat} {D : va_G} {cy : Nat → ClassId} {G : Gm} {v0 : Int32} {S : St} {Q : Int32 → St → Prop} (C : CX p s m args meth c b D cy cX11_litOf RX11 3 (some .int)) (hE : s.heap.size + 0 ≤ b + G.2.2) (h : f_X11_litOf G v0 Q S) : J p l e rm_X11_litOf s m args below meth c b D cy 3 (zI b D cy below args s G Q) 0 0 G S 0 [(0, .int v0)] [] := by
  unfold f_X11_litOf at h
  refine jB C [(.iconst 0, 1, 0), (.istore_n 1, 1, 0), (.iconst 0, 1, 0), (.istore_n 2, 1, 0)] 4 [(2, .int 0), (1, .int 0), (0, .int v0)] [] (by decide +kernel) rfl rfl ?_
  refine jSub [2, 1, 0] rfl ?_
  exact j_X11_litOf_4 C hE h
theorem ok_X11_litOf {G : Gm} {v0 : Int32} {S : St} {Q : Int32 → St → Prop}  (h : f_X11_litOf G v0 Q S) : MT yX11_litOf cX11_litOf 3 (some .int) rm_X11_litOf 0 0 (fun b => [.int v0]) G S (QI (fun r G1 S1 => G1 = G ∧ Q r S1)) := MT.ofJ (by decide +kernel) (fun b => [(0, .int v0)]) (fun b => rfl) (fun b => Nat.le_of_ble_eq_true rfl) (fun l b D cy p e s m below meth c C hE hn => j_X11_litOf C hE h)
theorem hd_X11_litOf : yX11_litOf.cls ≠ "java/lang/invoke/MethodHandle" ∧ yX11_litOf.cls ≠ "java/lang/invoke/VarHandle" ∧ (parseMethodDescriptor yX11_litOf.desc).map (fun d => d.parameters.length) = some 1 := by decide +kernel
abbrev rm_X11_is : Room := { frames := 0, cells := 0, slots := 0, locals := 0 }
set_option maxHeartbeats 4000000 in
set_option maxRecDepth 100000 in
theorem j_X11_is {p : Program} {l : Launch} {e : Env} {s : State} {m : MethodId} {args : Array Value} {below : List Frame} {meth : Method} {c : Code} {b : Nat} {D : va_G} {cy : Nat → ClassId} {G : Gm} {v0 : Int32} {v1 : Int32} {S : St} {Q : Int32 → St → Prop} (C : CX p s m args meth c b D cy cX11_is RX11 2 (some .boolean)) (hE : s.heap.size + 0 ≤ b + G.2.2) (h : f_X11_is G v0 v1 Q S) : J p l e rm_X11_is s m args below meth c b D cy 2 (zI b D cy below args s G Q) 0 0 G S 0 [(0, .int v0), (1, .int v1)] [] := by
  unfold f_X11_is at h
  refine jB C [(.iload_n 0, 1, 0), (.iload_n 1, 1, 0), (.ishr, 1, 0), (.iconst 1, 1, 1), (.iand, 1, 0), (.iconst 1, 1, 1)] 6 [(0, .int v0), (1, .int v1)] [.int 1, .int ((v0 >>> ((v1 : Int32) &&& 31)) &&& 1)] (by decide +kernel) rfl rfl ?_
  refine jIcmp_ne C 9 13 (by decide +kernel : decode cX11_is 6 = .ok (.if_icmp .ne 7, 3)) rfl rfl (fun c1 => ?_) (fun c1 => ?_)
  · have h := it2 h c1
    refine jB C [(.iconst 0, 1, 0)] 14 [(0, .int v0), (1, .int v1)] [.int 0] (by decide +kernel) rfl rfl ?_
    exact jRetZ C (by decide +kernel : decode cX11_is 14 = .ok (.ireturn, 1)) (Nat.le_refl _) (Nat.le_refl _) (by decide) ⟨rfl, h⟩
  · have h := it1 h c1
    refine jB C [(.iconst 1, 1, 1)] 10 [(0, .int v0), (1, .int v1)] [.int 1] (by decide +kernel) rfl rfl ?_
    refine jGoto C 14 (by decide +kernel : decode cX11_is 10 = .ok (.goto 4, 3)) rfl ?_
    exact jRetZ C (by decide +kernel : decode cX11_is 14 = .ok (.ireturn, 1)) (Nat.le_refl _) (Nat.le_refl _) (by decide) ⟨rfl, h⟩
theorem ok_X11_is {G : Gm} {v0 : Int32} {v1 : Int32} {S : St} {Q : Int32 → St → Prop}  (h : f_X11_is G v0 v1 Q S) : MT yX11_is cX11_is 2 (some .boolean) rm_X11_is 0 0 (fun b => [.int v0, .int v1]) G S (QI (fun r G1 S1 => G1 = G ∧ Q r S1)) := MT.ofJ (by decide +kernel) (fun b => [(0, .int v0), (1, .int v1)]) (fun b => rfl) (fun b => Nat.le_of_ble_eq_true rfl) (fun l b D cy p e s m below meth c C hE hn => j_X11_is C hE h)
theorem hd_X11_is : yX11_is.cls ≠ "java/lang/invoke/MethodHandle" ∧ yX11_is.cls ≠ "java/lang/invoke/VarHandle" ∧ (parseMethodDescriptor yX11_is.desc).map (fun d => d.parameters.length) = some 2 := by decide +kernel
abbrev rm_X11_firstOf : Room := { frames := 1, cells := 0, slots := 0, locals := 21 }
set_option maxHeartbeats 4000000 in
set_option maxRecDepth 100000 in
theorem j_X11_firstOf_2_n {p : Program} {l : Launch} {e : Env} {s : State} {m : MethodId} {args : Array Value} {below : List Frame} {meth : Method} {c : Code} {b : Nat} {D : va_G} {cy : Nat → ClassId} {G : Gm} {v0 : Int32} {Q : Int32 → St → Prop} (C : CX p s m args meth c b D cy cX11_firstOf RX11 2 (some .int)) (hE : s.heap.size + 0 ≤ b + G.2.2) : ∀ k (v1 : Int32) S, f_X11_firstOf_2_n G v0 Q k v1 S → J p l e rm_X11_firstOf s m args below meth c b D cy 2 (zI b D cy below args s G Q) 0 0 G S 2 [(0, .int v0), (1, .int v1)] [] := by
  intro k
  induction k with
  | zero => intro v1 S h; exact h.elim
  | succ k ih =>
    intro v1 S h
    unfold f_X11_firstOf_2_n at h
    refine jB C [(.iload_n 1, 1, 0), (.bipush 8, 2, 8)] 5 [(0, .int v0), (1, .int v1)] [.int 8, .int v1] (by decide +kernel) rfl rfl ?_
    refine jIcmp_ge C 8 22 (by decide +kernel : decode cX11_firstOf 5 = .ok (.if_icmp .ge 17, 3)) rfl rfl (fun c1 => ?_) (fun c1 => ?_)
    · have h := it1 h c1
      refine jB C [(.iload_n 1, 1, 0)] 23 [(0, .int v0), (1, .int v1)] [.int v1] (by decide +kernel) rfl rfl ?_
      exact jRetI C (by decide +kernel : decode cX11_firstOf 23 = .ok (.ireturn, 1)) (Nat.le_refl _) (Nat.le_refl _) ⟨rfl, h⟩
    · have h := it2 h c1
      refine jB C [(.iload_n 0, 1, 0), (.iload_n 1, 1, 0)] 10 [(0, .int v0), (1, .int v1)] [.int v1, .int v0] (by decide +kernel) rfl rfl ?_
      refine jcS_I C 13 (rest := []) (ok_X11_is h) (by decide +kernel : decode cX11_firstOf 10 = .ok (.invokestatic 161, 3)) rfl wd_1151 wd_1152 wd_12 wd_1153 ⟨rfl, rfl⟩ hd_X11_is ⟨Nat.le_of_ble_eq_true rfl, Nat.le_of_ble_eq_true rfl⟩ rfl rfl (Nat.le_of_ble_eq_true rfl) ⟨Nat.zero_le _, Nat.zero_le _⟩ (fun r3 S2 h => ?_)
      refine jIf_ne C 16 22 (by decide +kernel : decode cX11_firstOf 13 = .ok (.ifCond .ne 9, 3)) rfl rfl (fun c4 => ?_) (fun c4 => ?_)
      · have h := it2 h c4
        refine jB C [(.iload_n 1, 1, 0)] 23 [(0, .int v0), (1, .int v1)] [.int v1] (by decide +kernel) rfl rfl ?_
        exact jRetI C (by decide +kernel : decode cX11_firstOf 23 = .ok (.ireturn, 1)) (Nat.le_refl _) (Nat.le_refl _) ⟨rfl, h⟩
      · have h := it1 h c4
        refine jB C [(.iinc 1 1, 3, 1)] 19 [(1, .int (v1 + 1)), (0, .int v0)] [] (by decide +kernel) rfl rfl ?_
        refine jGoto C 2 (by decide +kernel : decode cX11_firstOf 19 = .ok (.goto (-17), 3)) rfl ?_
        refine jSub [1, 0] rfl ?_
        exact ih (v1 + 1) S2 h
theorem j_X11_firstOf_2 {p : Program} {l : Launch} {e : Env} {s : State} {m : MethodId} {args : Array Value} {below : List Frame} {meth : Method} {c : Code} {b : Nat} {D : va_G} {cy : Nat → ClassId} {G : Gm} {v0 : Int32} {v1 : Int32} {S : St} {Q : Int32 → St → Prop} (C : CX p s m args meth c b D cy cX11_firstOf RX11 2 (some .int)) (hE : s.heap.size + 0 ≤ b + G.2.2) (h : f_X11_firstOf_2 G v0 Q v1 S) : J p l e rm_X11_firstOf s m args below meth c b D cy 2 (zI b D cy below args s G Q) 0 0 G S 2 [(0, .int v0), (1, .int v1)] [] := by
  obtain ⟨k, h⟩ := h
  exact j_X11_firstOf_2_n C hE k v1 S h
set_option maxHeartbeats 4000000 in
set_option maxRecDepth 100000 in
theorem j_X11_firstOf {p : Program} {l : Launch} {e : Env} {s : State} {m : MethodId} {args : Array Value} {below : List Frame} {meth : Method} {c : Code} {b : Nat} {D : va_G} {cy : Nat → ClassId} {G : Gm} {v0 : Int32} {S : St} {Q : Int32 → St → Prop} (C : CX p s m args meth c b D cy cX11_firstOf RX11 2 (some .int)) (hE : s.heap.size + 0 ≤ b + G.2.2) (h : f_X11_firstOf G v0 Q S) : J p l e rm_X11_firstOf s m args below meth c b D cy 2 (zI b D cy below args s G Q) 0 0 G S 0 [(0, .int v0)] [] := by
  unfold f_X11_firstOf at h
  refine jB C [(.iconst 0, 1, 0), (.istore_n 1, 1, 0)] 2 [(1, .int 0), (0, .int v0)] [] (by decide +kernel) rfl rfl ?_
  refine jSub [1, 0] rfl ?_
  exact j_X11_firstOf_2 C hE h
theorem ok_X11_firstOf {G : Gm} {v0 : Int32} {S : St} {Q : Int32 → St → Prop}  (h : f_X11_firstOf G v0 Q S) : MT yX11_firstOf cX11_firstOf 2 (some .int) rm_X11_firstOf 0 0 (fun b => [.int v0]) G S (QI (fun r G1 S1 => G1 = G ∧ Q r S1)) := MT.ofJ (by decide +kernel) (fun b => [(0, .int v0)]) (fun b => rfl) (fun b => Nat.le_of_ble_eq_true rfl) (fun l b D cy p e s m below meth c C hE hn => j_X11_firstOf C hE h)
theorem hd_X11_firstOf : yX11_firstOf.cls ≠ "java/lang/invoke/MethodHandle" ∧ yX11_firstOf.cls ≠ "java/lang/invoke/VarHandle" ∧ (parseMethodDescriptor yX11_firstOf.desc).map (fun d => d.parameters.length) = some 1 := by decide +kernel
abbrev rm_X11_reckon : Room := { frames := 0, cells := 0, slots := 0, locals := 0 }
set_option maxHeartbeats 4000000 in
set_option maxRecDepth 100000 in
theorem j_X11_reckon_104 {p : Program} {l : Launch} {e : Env} {s : State} {m : MethodId} {args : Array Value} {below : List Frame} {meth : Method} {c : Code} {b : Nat} {D : va_G} {cy : Nat → ClassId} {G : Gm} {v0 : Nat} {v2 : Int64} {v4 : Int64} {u0 : Int32} {u1 : Nat} {S : St} {Q : Int64 → St → Prop} (C : CX p s m args meth c b D cy cX11_reckon RX11 6 (some .long)) (hE : s.heap.size + 0 ≤ b + G.2.2) (t_v0 : ok G 10 v0) (t_u1 : ok G 10 u1) (h : f_X11_reckon_104 G v0 v2 v4 u0 u1 Q S) : J p l e rm_X11_reckon s m args below meth c b D cy 6 (zL b D cy below args s G Q) 0 0 G S 104 [(0, .ref (b + v0)), (2, .long v2), (4, .long v4)] [.int u0, .ref (b + u1)] := by
  unfold f_X11_reckon_104 at h
  obtain ⟨z4, h⟩ := h
  refine jPutI C 107 (by decide +kernel : decode cX11_reckon 104 = .ok (.putfield 419, 3)) rfl hE t_u1 kX11 40 (by decide) rfl rfl (by decide) rfl wd_1194 rfl (nbZ z4) (fbZ z4) ?_
  refine jTopS (fun S1 e_S1 => ?_)
  have h := h S1 e_S1
  refine jB C [(.aload_n 0, 1, 0)] 108 [(0, .ref (b + v0)), (2, .long v2), (4, .long v4)] [.ref (b + v0)] (by decide +kernel) rfl rfl ?_
  refine jGetI C 111 (by decide +kernel : decode cX11_reckon 108 = .ok (.getfield 419, 3)) rfl t_v0 kX11 40 (by decide) rfl rfl (by decide) wd_1194 ?_
  refine jIf_eq C 114 118 (by decide +kernel : decode cX11_reckon 111 = .ok (.ifCond .eq 7, 3)) rfl rfl (fun c2 => ?_) (fun c2 => ?_)
  · have h := it1 h c2
    refine jB C [(.lload_n 2, 1, 0), (.lload 4, 2, 0)] 121 [(0, .ref (b + v0)), (2, .long v2), (4, .long v4)] [.long v4, .long v2] (by decide +kernel) rfl rfl ?_
    obtain ⟨y3, h⟩ := h
    refine jLrem C 122 (by decide +kernel : decode cX11_reckon 121 = .ok (.lrem, 1)) rfl y3 ?_
    exact jRetL C (by decide +kernel : decode cX11_reckon 122 = .ok (.lreturn, 1)) (Nat.le_refl _) (Nat.le_refl _) ⟨rfl, h⟩
  · have h := it2 h c2
    refine jB C [(.lconst 0, 1, 0)] 115 [(0, .ref (b + v0)), (2, .long v2), (4, .long v4)] [.long 0] (by decide +kernel) rfl rfl ?_
    refine jGoto C 122 (by decide +kernel : decode cX11_reckon 115 = .ok (.goto 7, 3)) rfl ?_
    exact jRetL C (by decide +kernel : decode cX11_reckon 122 = .ok (.lreturn, 1)) (Nat.le_refl _) (Nat.le_refl _) ⟨rfl, h⟩
set_option maxHeartbeats 4000000 in
set_option maxRecDepth 100000 in
theorem j_X11_reckon_72 {p : Program} {l : Launch} {e : Env} {s : State} {m : MethodId} {args : Array Value} {below : List Frame} {meth : Method} {c : Code} {b : Nat} {D : va_G} {cy : Nat → ClassId} {G : Gm} {v0 : Nat} {v2 : Int64} {v4 : Int64} {u0 : Int32} {u1 : Nat} {S : St} {Q : Int64 → St → Prop} (C : CX p s m args meth c b D cy cX11_reckon RX11 6 (some .long)) (hE : s.heap.size + 0 ≤ b + G.2.2) (t_v0 : ok G 10 v0) (t_u1 : ok G 10 u1) (h : f_X11_reckon_72 G v0 v2 v4 u0 u1 Q S) : J p l e rm_X11_reckon s m args below meth c b D cy 6 (zL b D cy below args s G Q) 0 0 G S 72 [(0, .ref (b + v0)), (2, .long v2), (4, .long v4)] [.int u0, .ref (b + u1)] := by
  unfold f_X11_reckon_72 at h
  obtain ⟨z4, h⟩ := h
  refine jPutI C 75 (by decide +kernel : decode cX11_reckon 72 = .ok (.putfield 419, 3)) rfl hE t_u1 kX11 40 (by decide) rfl rfl (by decide) rfl wd_1194 rfl (nbZ z4) (fbZ z4) ?_
  refine jTopS (fun S1 e_S1 => ?_)
  have h := h S1 e_S1
  refine jB C [(.aload_n 0, 1, 0)] 76 [(0, .ref (b + v0)), (2, .long v2), (4, .long v4)] [.ref (b + v0)] (by decide +kernel) rfl rfl ?_
  refine jGetI C 79 (by decide +kernel : decode cX11_reckon 76 = .ok (.getfield 419, 3)) rfl t_v0 kX11 40 (by decide) rfl rfl (by decide) wd_1194 ?_
  refine jIf_eq C 82 86 (by decide +kernel : decode cX11_reckon 79 = .ok (.ifCond .eq 7, 3)) rfl rfl (fun c2 => ?_) (fun c2 => ?_)
  · have h := it1 h c2
    refine jB C [(.lload_n 2, 1, 0), (.lload 4, 2, 0)] 89 [(0, .ref (b + v0)), (2, .long v2), (4, .long v4)] [.long v4, .long v2] (by decide +kernel) rfl rfl ?_
    obtain ⟨y3, h⟩ := h
    refine jLdiv C 90 (by decide +kernel : decode cX11_reckon 89 = .ok (.ldiv, 1)) rfl y3 ?_
    exact jRetL C (by decide +kernel : decode cX11_reckon 90 = .ok (.lreturn, 1)) (Nat.le_refl _) (Nat.le_refl _) ⟨rfl, h⟩
  · have h := it2 h c2
    refine jB C [(.lconst 0, 1, 0)] 83 [(0, .ref (b + v0)), (2, .long v2), (4, .long v4)] [.long 0] (by decide +kernel) rfl rfl ?_
    refine jGoto C 90 (by decide +kernel : decode cX11_reckon 83 = .ok (.goto 7, 3)) rfl ?_
    exact jRetL C (by decide +kernel : decode cX11_reckon 90 = .ok (.lreturn, 1)) (Nat.le_refl _) (Nat.le_refl _) ⟨rfl, h⟩
set_option maxHeartbeats 4000000 in
set_option maxRecDepth 100000 in
theorem j_X11_reckon {p : Program} {l : Launch} {e : Env} {s : State} {m : MethodId} {args : Array Value} {below : List Frame} {meth : Method} {c : Code} {b : Nat} {D : va_G} {cy : Nat → ClassId} {G : Gm} {v0 : Nat} {v1 : Int32} {v2 : Int64} {v4 : Int64} {S : St} {Q : Int64 → St → Prop} (C : CX p s m args meth c b D cy cX11_reckon RX11 6 (some .long)) (hE : s.heap.size + 0 ≤ b + G.2.2) (t_v0 : ok G 10 v0) (h : f_X11_reckon G v0 v1 v2 v4 Q S) : J p l e rm_X11_reckon s m args below meth c b D cy 6 (zL b D cy below args s G Q) 0 0 G S 0 [(0, .ref (b + v0)), (1, .int v1), (2, .long v2), (4, .long v4)] [] := by
  unfold f_X11_reckon at h
  refine jB C [(.iload_n 1, 1, 0)] 1 [(0, .ref (b + v0)), (1, .int v1), (2, .long v2), (4, .long v4)] [.int v1] (by decide +kernel) rfl rfl ?_
  by_cases c6_0 : v1 = 20
  · have h := it1 h c6_0
    refine jTabIn C 44 20 (by decide +kernel : decode cX11_reckon 1 = .ok (.tableswitch 148 20 26 #[43, 48, 53, 58, 90, 122, 135], 43)) c6_0 ⟨rfl, rfl, rfl, rfl⟩ ?_
    refine jB C [(.lload_n 2, 1, 0), (.lload 4, 2, 0), (.ladd, 1, 0)] 48 [(0, .ref (b + v0)), (1, .int v1), (2, .long v2), (4, .long v4)] [.long (v2 + v4)] (by decide +kernel) rfl rfl ?_
    exact jRetL C (by decide +kernel : decode cX11_reckon 48 = .ok (.lreturn, 1)) (Nat.le_refl _) (Nat.le_refl _) ⟨rfl, h⟩
  · have h := it2 h c6_0
    by_cases c6_1 : v1 = 21
    · have h := it1 h c6_1
      refine jTabIn C 49 21 (by decide +kernel : decode cX11_reckon 1 = .ok (.tableswitch 148 20 26 #[43, 48, 53, 58, 90, 122, 135], 43)) c6_1 ⟨rfl, rfl, rfl, rfl⟩ ?_
      refine jB C [(.lload_n 2, 1, 0), (.lload 4, 2, 0), (.lsub, 1, 0)] 53 [(0, .ref (b + v0)), (1, .int v1), (2, .long v2), (4, .long v4)] [.long (v2 - v4)] (by decide +kernel) rfl rfl ?_
      exact jRetL C (by decide +kernel : decode cX11_reckon 53 = .ok (.lreturn, 1)) (Nat.le_refl _) (Nat.le_refl _) ⟨rfl, h⟩
    · have h := it2 h c6_1
      by_cases c6_2 : v1 = 22
      · have h := it1 h c6_2
        refine jTabIn C 54 22 (by decide +kernel : decode cX11_reckon 1 = .ok (.tableswitch 148 20 26 #[43, 48, 53, 58, 90, 122, 135], 43)) c6_2 ⟨rfl, rfl, rfl, rfl⟩ ?_
        refine jB C [(.lload_n 2, 1, 0), (.lload 4, 2, 0), (.lmul, 1, 0)] 58 [(0, .ref (b + v0)), (1, .int v1), (2, .long v2), (4, .long v4)] [.long (v2 * v4)] (by decide +kernel) rfl rfl ?_
        exact jRetL C (by decide +kernel : decode cX11_reckon 58 = .ok (.lreturn, 1)) (Nat.le_refl _) (Nat.le_refl _) ⟨rfl, h⟩
      · have h := it2 h c6_2
        by_cases c6_3 : v1 = 23
        · have h := it1 h c6_3
          refine jTabIn C 59 23 (by decide +kernel : decode cX11_reckon 1 = .ok (.tableswitch 148 20 26 #[43, 48, 53, 58, 90, 122, 135], 43)) c6_3 ⟨rfl, rfl, rfl, rfl⟩ ?_
          refine jB C [(.aload_n 0, 1, 0), (.lload 4, 2, 0), (.lconst 0, 1, 0), (.lcmp, 1, 0)] 64 [(0, .ref (b + v0)), (1, .int v1), (2, .long v2), (4, .long v4)] [.int (lg_cmp v4 0), .ref (b + v0)] (by decide +kernel) rfl rfl ?_
          refine jIf_ne C 67 71 (by decide +kernel : decode cX11_reckon 64 = .ok (.ifCond .ne 7, 3)) rfl rfl (fun c1 => ?_) (fun c1 => ?_)
          · have h := it2 h c1
            refine jB C [(.iconst 0, 1, 0)] 72 [(0, .ref (b + v0)), (1, .int v1), (2, .long v2), (4, .long v4)] [.int 0, .ref (b + v0)] (by decide +kernel) rfl rfl ?_
            refine jSub [0, 2, 3] rfl ?_
            exact j_X11_reckon_72 C hE t_v0 t_v0 h
          · have h := it1 h c1
            refine jB C [(.iconst 1, 1, 1)] 68 [(0, .ref (b + v0)), (1, .int v1), (2, .long v2), (4, .long v4)] [.int 1, .ref (b + v0)] (by decide +kernel) rfl rfl ?_
            refine jGoto C 72 (by decide +kernel : decode cX11_reckon 68 = .ok (.goto 4, 3)) rfl ?_
            refine jSub [0, 2, 3] rfl ?_
            exact j_X11_reckon_72 C hE t_v0 t_v0 h
        · have h := it2 h c6_3
          by_cases c6_4 : v1 = 24
          · have h := it1 h c6_4
            refine jTabIn C 91 24 (by decide +kernel : decode cX11_reckon 1 = .ok (.tableswitch 148 20 26 #[43, 48, 53, 58, 90, 122, 135], 43)) c6_4 ⟨rfl, rfl, rfl, rfl⟩ ?_
            refine jB C [(.aload_n 0, 1, 0), (.lload 4, 2, 0), (.lconst 0, 1, 0), (.lcmp, 1, 0)] 96 [(0, .ref (b + v0)), (1, .int v1), (2, .long v2), (4, .long v4)] [.int (lg_cmp v4 0), .ref (b + v0)] (by decide +kernel) rfl rfl ?_
            refine jIf_ne C 99 103 (by decide +kernel : decode cX11_reckon 96 = .ok (.ifCond .ne 7, 3)) rfl rfl (fun c2 => ?_) (fun c2 => ?_)
            · have h := it2 h c2
              refine jB C [(.iconst 0, 1, 0)] 104 [(0, .ref (b + v0)), (1, .int v1), (2, .long v2), (4, .long v4)] [.int 0, .ref (b + v0)] (by decide +kernel) rfl rfl ?_
              refine jSub [0, 2, 3] rfl ?_
              exact j_X11_reckon_104 C hE t_v0 t_v0 h
            · have h := it1 h c2
              refine jB C [(.iconst 1, 1, 1)] 100 [(0, .ref (b + v0)), (1, .int v1), (2, .long v2), (4, .long v4)] [.int 1, .ref (b + v0)] (by decide +kernel) rfl rfl ?_
              refine jGoto C 104 (by decide +kernel : decode cX11_reckon 100 = .ok (.goto 4, 3)) rfl ?_
              refine jSub [0, 2, 3] rfl ?_
              exact j_X11_reckon_104 C hE t_v0 t_v0 h
          · have h := it2 h c6_4
            by_cases c6_5 : v1 = 25
            · have h := it1 h c6_5
              refine jTabIn C 123 25 (by decide +kernel : decode cX11_reckon 1 = .ok (.tableswitch 148 20 26 #[43, 48, 53, 58, 90, 122, 135], 43)) c6_5 ⟨rfl, rfl, rfl, rfl⟩ ?_
              refine jB C [(.lload_n 2, 1, 0), (.lload 4, 2, 0), (.lcmp, 1, 0)] 127 [(0, .ref (b + v0)), (1, .int v1), (2, .long v2), (4, .long v4)] [.int (lg_cmp v2 v4)] (by decide +kernel) rfl rfl ?_
              refine jIf_ge C 130 134 (by decide +kernel : decode cX11_reckon 127 = .ok (.ifCond .ge 7, 3)) rfl rfl (fun c3 => ?_) (fun c3 => ?_)
              · have h := it1 h c3
                refine jB C [(.lconst 0, 1, 0)] 135 [(0, .ref (b + v0)), (1, .int v1), (2, .long v2), (4, .long v4)] [.long 0] (by decide +kernel) rfl rfl ?_
                exact jRetL C (by decide +kernel : decode cX11_reckon 135 = .ok (.lreturn, 1)) (Nat.le_refl _) (Nat.le_refl _) ⟨rfl, h⟩
              · have h := it2 h c3
                refine jB C [(.lconst 1, 1, 0)] 131 [(0, .ref (b + v0)), (1, .int v1), (2, .long v2), (4, .long v4)] [.long 1] (by decide +kernel) rfl rfl ?_
                refine jGoto C 135 (by decide +kernel : decode cX11_reckon 131 = .ok (.goto 4, 3)) rfl ?_
                exact jRetL C (by decide +kernel : decode cX11_reckon 135 = .ok (.lreturn, 1)) (Nat.le_refl _) (Nat.le_refl _) ⟨rfl, h⟩
            · have h := it2 h c6_5
              by_cases c6_6 : v1 = 26
              · have h := it1 h c6_6
                refine jTabIn C 136 26 (by decide +kernel : decode cX11_reckon 1 = .ok (.tableswitch 148 20 26 #[43, 48, 53, 58, 90, 122, 135], 43)) c6_6 ⟨rfl, rfl, rfl, rfl⟩ ?_
                refine jB C [(.lload_n 2, 1, 0), (.lload 4, 2, 0), (.lcmp, 1, 0)] 140 [(0, .ref (b + v0)), (1, .int v1), (2, .long v2), (4, .long v4)] [.int (lg_cmp v2 v4)] (by decide +kernel) rfl rfl ?_
                refine jIf_le C 143 147 (by decide +kernel : decode cX11_reckon 140 = .ok (.ifCond .le 7, 3)) rfl rfl (fun c4 => ?_) (fun c4 => ?_)
                · have h := it1 h c4
                  refine jB C [(.lconst 0, 1, 0)] 148 [(0, .ref (b + v0)), (1, .int v1), (2, .long v2), (4, .long v4)] [.long 0] (by decide +kernel) rfl rfl ?_
                  exact jRetL C (by decide +kernel : decode cX11_reckon 148 = .ok (.lreturn, 1)) (Nat.le_refl _) (Nat.le_refl _) ⟨rfl, h⟩
                · have h := it2 h c4
                  refine jB C [(.lconst 1, 1, 0)] 144 [(0, .ref (b + v0)), (1, .int v1), (2, .long v2), (4, .long v4)] [.long 1] (by decide +kernel) rfl rfl ?_
                  refine jGoto C 148 (by decide +kernel : decode cX11_reckon 144 = .ok (.goto 4, 3)) rfl ?_
                  exact jRetL C (by decide +kernel : decode cX11_reckon 148 = .ok (.lreturn, 1)) (Nat.le_refl _) (Nat.le_refl _) ⟨rfl, h⟩
              · have h := it2 h c6_6
                refine jTabOut C 149 (by decide +kernel : decode cX11_reckon 1 = .ok (.tableswitch 148 20 26 #[43, 48, 53, 58, 90, 122, 135], 43)) rfl (by have := lv_neT c6_0 (a := 20) rfl; have := lv_neT c6_1 (a := 21) rfl; have := lv_neT c6_2 (a := 22) rfl; have := lv_neT c6_3 (a := 23) rfl; have := lv_neT c6_4 (a := 24) rfl; have := lv_neT c6_5 (a := 25) rfl; have := lv_neT c6_6 (a := 26) rfl; omega) ?_
                refine jB C [(.lload_n 2, 1, 0), (.lload 4, 2, 0), (.lcmp, 1, 0)] 153 [(0, .ref (b + v0)), (1, .int v1), (2, .long v2), (4, .long v4)] [.int (lg_cmp v2 v4)] (by decide +kernel) rfl rfl ?_
                refine jIf_ne C 156 160 (by decide +kernel : decode cX11_reckon 153 = .ok (.ifCond .ne 7, 3)) rfl rfl (fun c5 => ?_) (fun c5 => ?_)
                · have h := it2 h c5
                  refine jB C [(.lconst 0, 1, 0)] 161 [(0, .ref (b + v0)), (1, .int v1), (2, .long v2), (4, .long v4)] [.long 0] (by decide +kernel) rfl rfl ?_
                  exact jRetL C (by decide +kernel : decode cX11_reckon 161 = .ok (.lreturn, 1)) (Nat.le_refl _) (Nat.le_refl _) ⟨rfl, h⟩
                · have h := it1 h c5
                  refine jB C [(.lconst 1, 1, 0)] 157 [(0, .ref (b + v0)), (1, .int v1), (2, .long v2), (4, .long v4)] [.long 1] (by decide +kernel) rfl rfl ?_
                  refine jGoto C 161 (by decide +kernel : decode cX11_reckon 157 = .ok (.goto 4, 3)) rfl ?_
                  exact jRetL C (by decide +kernel : decode cX11_reckon 161 = .ok (.lreturn, 1)) (Nat.le_refl _) (Nat.le_refl _) ⟨rfl, h⟩
theorem ok_X11_reckon {G : Gm} {v0 : Nat} {v1 : Int32} {v2 : Int64} {v4 : Int64} {S : St} {Q : Int64 → St → Prop}  (t_v0 : ok G 10 v0) (h : f_X11_reckon G v0 v1 v2 v4 Q S) : MT yX11_reckon cX11_reckon 6 (some .long) rm_X11_reckon 0 0 (fun b => [.ref (b + v0), .int v1, .long v2, .long v4]) G S (QL (fun r G1 S1 => G1 = G ∧ Q r S1)) := MT.ofJ (by decide +kernel) (fun b => [(0, .ref (b + v0)), (1, .int v1), (2, .long v2), (4, .long v4)]) (fun b => rfl) (fun b => Nat.le_of_ble_eq_true rfl) (fun l b D cy p e s m below meth c C hE hn => j_X11_reckon C hE t_v0 h)
theorem hd_X11_reckon : yX11_reckon.cls ≠ "java/lang/invoke/MethodHandle" ∧ yX11_reckon.cls ≠ "java/lang/invoke/VarHandle" ∧ (parseMethodDescriptor yX11_reckon.desc).map (fun d => d.parameters.length) = some 3 := by decide +kernel
abbrev rm_X11_reckonAll : Room := { frames := 3, cells := 0, slots := 0, locals := 66 }
set_option maxHeartbeats 4000000 in
set_option maxRecDepth 100000 in
theorem j_X11_reckonAll_376 {p : Program} {l : Launch} {e : Env} {s : State} {m : MethodId} {args : Array Value} {below : List Frame} {meth : Method} {c : Code} {b : Nat} {D : va_G} {cy : Nat → ClassId} {G : Gm} {u0 : Int64} {u1 : Nat} {S : St} {Q : St → Prop} (C : CX p s m args meth c b D cy cX11_reckonAll RX11 7 none) (hE : s.heap.size + 0 ≤ b + G.2.2) (t_u1 : ok G 10 u1) (h : f_X11_reckonAll_376 G u0 u1 Q S) : J p l e rm_X11_reckonAll s m args below meth c b D cy 7 (zV b D cy below args s G Q) 0 0 G S 376 [] [.long u0, .ref (b + u1)] := by
  unfold f_X11_reckonAll_376 at h
  refine jPutJ C 379 (by decide +kernel : decode cX11_reckonAll 376 = .ok (.putfield 436, 3)) rfl hE t_u1 kX11 41 (by decide) rfl rfl (by decide) rfl wd_1195 rfl rfl rfl ?_
  refine jTopS (fun S1 e_S1 => ?_)
  have h := h S1 e_S1
  exact jRetV C (by decide +kernel : decode cX11_reckonAll 379 = .ok (.return_, 1)) (Nat.le_refl _) (Nat.le_refl _) ⟨rfl, h⟩
set_option maxHeartbeats 4000000 in
set_option maxRecDepth 100000 in
theorem j_X11_reckonAll_361 {p : Program} {l : Launch} {e : Env} {s : State} {m : MethodId} {args : Array Value} {below : List Frame} {meth : Method} {c : Code} {b : Nat} {D : va_G} {cy : Nat → ClassId} {G : Gm} {v0 : Nat} {v3 : Int32} {S : St} {Q : St → Prop} (C : CX p s m args meth c b D cy cX11_reckonAll RX11 7 none) (hE : s.heap.size + 0 ≤ b + G.2.2) (t_v0 : ok G 10 v0) (h : f_X11_reckonAll_361 G v0 v3 Q S) : J p l e rm_X11_reckonAll s m args below meth c b D cy 7 (zV b D cy below args s G Q) 0 0 G S 361 [(0, .ref (b + v0)), (3, .int v3)] [] := by
  unfold f_X11_reckonAll_361 at h
  refine jB C [(.aload_n 0, 1, 0), (.iload_n 3, 1, 0)] 363 [(0, .ref (b + v0)), (3, .int v3)] [.int v3, .ref (b + v0)] (by decide +kernel) rfl rfl ?_
  refine jIf_le C 366 375 (by decide +kernel : decode cX11_reckonAll 363 = .ok (.ifCond .le 12, 3)) rfl rfl (fun c1 => ?_) (fun c1 => ?_)
  · have h := it1 h c1
    refine jB C [(.lconst 0, 1, 0)] 376 [(0, .ref (b + v0)), (3, .int v3)] [.long 0, .ref (b + v0)] (by decide +kernel) rfl rfl ?_
    refine jSub [] rfl ?_
    exact j_X11_reckonAll_376 C hE t_v0 h
  · have h := it2 h c1
    refine jB C [(.aload_n 0, 1, 0)] 367 [(0, .ref (b + v0)), (3, .int v3)] [.ref (b + v0), .ref (b + v0)] (by decide +kernel) rfl rfl ?_
    obtain ⟨a2, e_a2, h⟩ := h
    refine jGetR C 370 (by decide +kernel : decode cX11_reckonAll 367 = .ok (.getfield 111, 3)) rfl t_v0 kX11 39 (by decide) rfl rfl (by decide) wd_1193 e_a2 rfl (fun t_a2 => ?_)
    refine jB C [(.iconst 0, 1, 0)] 371 [(0, .ref (b + v0)), (3, .int v3)] [.int 0, .ref (b + a2), .ref (b + v0)] (by decide +kernel) rfl rfl ?_
    obtain ⟨y3, h⟩ := h
    refine jLald C 372 (by decide +kernel : decode cX11_reckonAll 371 = .ok (.laload, 1)) rfl t_a2 y3 ?_
    refine jGoto C 376 (by decide +kernel : decode cX11_reckonAll 372 = .ok (.goto 4, 3)) rfl ?_
    refine jSub [] rfl ?_
    exact j_X11_reckonAll_376 C hE t_v0 h
set_option maxHeartbeats 4000000 in
set_option maxRecDepth 100000 in
theorem j_X11_reckonAll_344 {p : Program} {l : Launch} {e : Env} {s : State} {m : MethodId} {args : Array Value} {below : List Frame} {meth : Method} {c : Code} {b : Nat} {D : va_G} {cy : Nat → ClassId} {G : Gm} {k10 : Int32 → Int32 → St → Prop} {v0 : Nat} {v2 : Int32} {v3 : Int32} {v4 : Int32} {v6 : Int32} {u0 : Int64} {u1 : Int64} {S : St} {Q : St → Prop} (C : CX p s m args meth c b D cy cX11_reckonAll RX11 7 none) (hE : s.heap.size + 0 ≤ b + G.2.2) (t_v0 : ok G 10 v0) (hk10 : ∀ v3' v4' S, k10 v3' v4' S → J p l e rm_X11_reckonAll s m args below meth c b D cy 7 (zV b D cy below args s G Q) 0 0 G S 10 [(0, .ref (b + v0)), (2, .int v2), (3, .int (v3')), (4, .int (v4'))] []) (h : f_X11_reckonAll_344 G k10 v0 v2 v3 v4 v6 u0 u1 Q S) : J p l e rm_X11_reckonAll s m args below meth c b D cy 7 (zV b D cy below args s G Q) 0 0 G S 344 [(0, .ref (b + v0)), (2, .int v2), (3, .int v3), (4, .int v4), (6, .int v6)] [.long u0, .long u1] := by
  unfold f_X11_reckonAll_344 at h
  refine jB C [(.lcmp, 1, 0)] 345 [(0, .ref (b + v0)), (2, .int v2), (3, .int v3), (4, .int v4), (6, .int v6)] [.int (lg_cmp u1 u0)] (by decide +kernel) rfl rfl ?_
  refine jIf_ne C 348 355 (by decide +kernel : decode cX11_reckonAll 345 = .ok (.ifCond .ne 10, 3)) rfl rfl (fun c1 => ?_) (fun c1 => ?_)
  · have h := it2 h c1
    refine jB C [(.iinc 3 (-1), 3, (-1))] 358 [(3, .int (v3 + (-1))), (0, .ref (b + v0)), (2, .int v2), (4, .int v4), (6, .int v6)] [] (by decide +kernel) rfl rfl ?_
    refine jGoto C 10 (by decide +kernel : decode cX11_reckonAll 358 = .ok (.goto (-348), 3)) rfl ?_
    refine jSub [1, 2, 0, 3] rfl ?_
    exact hk10 (v3 + (-1)) v4 S h
  · have h := it1 h c1
    refine jB C [(.iload 6, 2, 0), (.istore 4, 2, 0)] 352 [(4, .int v6), (0, .ref (b + v0)), (2, .int v2), (3, .int v3), (6, .int v6)] [] (by decide +kernel) rfl rfl ?_
    refine jGoto C 358 (by decide +kernel : decode cX11_reckonAll 352 = .ok (.goto 6, 3)) rfl ?_
    refine jGoto C 10 (by decide +kernel : decode cX11_reckonAll 358 = .ok (.goto (-348), 3)) rfl ?_
    refine jSub [1, 2, 3, 0] rfl ?_
    exact hk10 v3 v6 S h
set_option maxHeartbeats 4000000 in
set_option maxRecDepth 100000 in
theorem j_X11_reckonAll_290 {p : Program} {l : Launch} {e : Env} {s : State} {m : MethodId} {args : Array Value} {below : List Frame} {meth : Method} {c : Code} {b : Nat} {D : va_G} {cy : Nat → ClassId} {G : Gm} {k10 : Int32 → Int32 → St → Prop} {v0 : Nat} {v2 : Int32} {v3 : Int32} {v4 : Int32} {u0 : Int32} {u1 : Nat} {S : St} {Q : St → Prop} (C : CX p s m args meth c b D cy cX11_reckonAll RX11 7 none) (hE : s.heap.size + 0 ≤ b + G.2.2) (t_v0 : ok G 10 v0) (t_u1 : ok G 10 u1) (hk10 : ∀ v3' v4' S, k10 v3' v4' S → J p l e rm_X11_reckonAll s m args below meth c b D cy 7 (zV b D cy below args s G Q) 0 0 G S 10 [(0, .ref (b + v0)), (2, .int v2), (3, .int (v3')), (4, .int (v4'))] []) (h : f_X11_reckonAll_290 G k10 v0 v2 v3 v4 u0 u1 Q S) : J p l e rm_X11_reckonAll s m args below meth c b D cy 7 (zV b D cy below args s G Q) 0 0 G S 290 [(0, .ref (b + v0)), (2, .int v2), (3, .int v3), (4, .int v4)] [.int u0, .ref (b + u1)] := by
  unfold f_X11_reckonAll_290 at h
  obtain ⟨z2, h⟩ := h
  refine jPutI C 293 (by decide +kernel : decode cX11_reckonAll 290 = .ok (.putfield 419, 3)) rfl hE t_u1 kX11 40 (by decide) rfl rfl (by decide) rfl wd_1194 rfl (nbZ z2) (fbZ z2) ?_
  refine jTopS (fun S1 e_S1 => ?_)
  have h := h S1 e_S1
  refine jGoto C 358 (by decide +kernel : decode cX11_reckonAll 293 = .ok (.goto 65, 3)) rfl ?_
  refine jGoto C 10 (by decide +kernel : decode cX11_reckonAll 358 = .ok (.goto (-348), 3)) rfl ?_
  refine jSub [0, 1, 2, 3] rfl ?_
  exact hk10 v3 v4 S1 h
set_option maxHeartbeats 4000000 in
set_option maxRecDepth 100000 in
theorem j_X11_reckonAll_285 {p : Program} {l : Launch} {e : Env} {s : State} {m : MethodId} {args : Array Value} {below : List Frame} {meth : Method} {c : Code} {b : Nat} {D : va_G} {cy : Nat → ClassId} {G : Gm} {k10 : Int32 → Int32 → St → Prop} {v0 : Nat} {v2 : Int32} {v3 : Int32} {v4 : Int32} {u0 : Nat} {S : St} {Q : St → Prop} (C : CX p s m args meth c b D cy cX11_reckonAll RX11 7 none) (hE : s.heap.size + 0 ≤ b + G.2.2) (t_v0 : ok G 10 v0) (t_u0 : ok G 10 u0) (hk10 : ∀ v3' v4' S, k10 v3' v4' S → J p l e rm_X11_reckonAll s m args below meth c b D cy 7 (zV b D cy below args s G Q) 0 0 G S 10 [(0, .ref (b + v0)), (2, .int v2), (3, .int (v3')), (4, .int (v4'))] []) (h : f_X11_reckonAll_285 G k10 v0 v2 v3 v4 u0 Q S) : J p l e rm_X11_reckonAll s m args below meth c b D cy 7 (zV b D cy below args s G Q) 0 0 G S 285 [(0, .ref (b + v0)), (2, .int v2), (3, .int v3), (4, .int v4)] [.ref (b + u0)] := by
  unfold f_X11_reckonAll_285 at h
  refine jB C [(.iconst 1, 1, 1)] 286 [(0, .ref (b + v0)), (2, .int v2), (3, .int v3), (4, .int v4)] [.int 1, .ref (b + u0)] (by decide +kernel) rfl rfl ?_
  refine jGoto C 290 (by decide +kernel : decode cX11_reckonAll 286 = .ok (.goto 4, 3)) rfl ?_
  refine jSub [0, 1, 2, 3] rfl ?_
  exact j_X11_reckonAll_290 C hE t_v0 t_u0 hk10 h
set_option maxHeartbeats 4000000 in
set_option maxRecDepth 100000 in
theorem j_X11_reckonAll_212 {p : Program} {l : Launch} {e : Env} {s : State} {m : MethodId} {args : Array Value} {below : List Frame} {meth : Method} {c : Code} {b : Nat} {D : va_G} {cy : Nat → ClassId} {G : Gm} {k10 : Int32 → Int32 → St → Prop} {v0 : Nat} {v2 : Int32} {v3 : Int32} {v4 : Int32} {u0 : Int64} {u1 : Int32} {u2 : Nat} {S : St} {Q : St → Prop} (C : CX p s m args meth c b D cy cX11_reckonAll RX11 7 none) (hE : s.heap.size + 0 ≤ b + G.2.2) (t_v0 : ok G 10 v0) (t_u2 : ok G 12 u2) (hk10 : ∀ v3' v4' S, k10 v3' v4' S → J p l e rm_X11_reckonAll s m args below meth c b D cy 7 (zV b D cy below args s G Q) 0 0 G S 10 [(0, .ref (b + v0)), (2, .int v2), (3, .int (v3')), (4, .int (v4'))] []) (h : f_X11_reckonAll_212 G k10 v0 v2 v3 v4 u0 u1 u2 Q S) : J p l e rm_X11_reckonAll s m args below meth c b D cy 7 (zV b D cy below args s G Q) 0 0 G S 212 [(0, .ref (b + v0)), (2, .int v2), (3, .int v3), (4, .int v4)] [.long u0, .int u1, .ref (b + u2)] := by
  unfold f_X11_reckonAll_212 at h
  obtain ⟨y1, h⟩ := h
  refine jLast C 213 (by decide +kernel : decode cX11_reckonAll 212 = .ok (.lastore, 1)) rfl hE t_u2 y1 ?_
  refine jTopS (fun S2 e_S2 => ?_)
  have h := h S2 e_S2
  refine jB C [(.iinc 3 1, 3, 1)] 216 [(3, .int (v3 + 1)), (0, .ref (b + v0)), (2, .int v2), (4, .int v4)] [] (by decide +kernel) rfl rfl ?_
  refine jGoto C 358 (by decide +kernel : decode cX11_reckonAll 216 = .ok (.goto 142, 3)) rfl ?_
  refine jGoto C 10 (by decide +kernel : decode cX11_reckonAll 358 = .ok (.goto (-348), 3)) rfl ?_
  refine jSub [1, 2, 0, 3] rfl ?_
  exact hk10 (v3 + 1) v4 S2 h
set_option maxHeartbeats 4000000 in
set_option maxRecDepth 100000 in
theorem j_X11_reckonAll_95 {p : Program} {l : Launch} {e : Env} {s : State} {m : MethodId} {args : Array Value} {below : List Frame} {meth : Method} {c : Code} {b : Nat} {D : va_G} {cy : Nat → ClassId} {G : Gm} {k10 : Int32 → Int32 → St → Prop} {v0 : Nat} {v2 : Int32} {v3 : Int32} {v4 : Int32} {v5 : Int32} {u0 : Int32} {S : St} {Q : St → Prop} (C : CX p s m args meth c b D cy cX11_reckonAll RX11 7 none) (hE : s.heap.size + 0 ≤ b + G.2.2) (t_v0 : ok G 10 v0) (hk10 : ∀ v3' v4' S, k10 v3' v4' S → J p l e rm_X11_reckonAll s m args below meth c b D cy 7 (zV b D cy below args s G Q) 0 0 G S 10 [(0, .ref (b + v0)), (2, .int v2), (3, .int (v3')), (4, .int (v4'))] []) (h : f_X11_reckonAll_95 G k10 v0 v2 v3 v4 v5 u0 Q S) : J p l e rm_X11_reckonAll s m args below meth c b D cy 7 (zV b D cy below args s G Q) 0 0 G S 95 [(0, .ref (b + v0)), (2, .int v2), (3, .int v3), (4, .int v4), (5, .int v5)] [.int u0] := by
  unfold f_X11_reckonAll_95 at h
  refine jB C [(.istore 6, 2, 0), (.iinc 4 1, 3, 1), (.iload 5, 2, 0), (.bipush 20, 2, 20)] 104 [(4, .int (v4 + 1)), (6, .int u0), (0, .ref (b + v0)), (2, .int v2), (3, .int v3), (5, .int v5)] [.int 20, .int v5] (by decide +kernel) rfl rfl ?_
  refine jIcmp_ge C 107 219 (by decide +kernel : decode cX11_reckonAll 104 = .ok (.if_icmp .ge 115, 3)) rfl rfl (fun c1 => ?_) (fun c1 => ?_)
  · have h := it1 h c1
    refine jB C [(.iload 5, 2, 0), (.bipush 28, 2, 28)] 223 [(4, .int (v4 + 1)), (6, .int u0), (0, .ref (b + v0)), (2, .int v2), (3, .int v3), (5, .int v5)] [.int 28, .int v5] (by decide +kernel) rfl rfl ?_
    refine jIcmp_ge C 226 296 (by decide +kernel : decode cX11_reckonAll 223 = .ok (.if_icmp .ge 73, 3)) rfl rfl (fun c2 => ?_) (fun c2 => ?_)
    · have h := it1 h c2
      refine jB C [(.iload 5, 2, 0), (.bipush 28, 2, 28)] 300 [(4, .int (v4 + 1)), (6, .int u0), (0, .ref (b + v0)), (2, .int v2), (3, .int v3), (5, .int v5)] [.int 28, .int v5] (by decide +kernel) rfl rfl ?_
      refine jIcmp_ne C 303 324 (by decide +kernel : decode cX11_reckonAll 300 = .ok (.if_icmp .ne 24, 3)) rfl rfl (fun c3 => ?_) (fun c3 => ?_)
      · have h := it2 h c3
        refine jB C [(.aload_n 0, 1, 0)] 325 [(4, .int (v4 + 1)), (6, .int u0), (0, .ref (b + v0)), (2, .int v2), (3, .int v3), (5, .int v5)] [.ref (b + v0)] (by decide +kernel) rfl rfl ?_
        obtain ⟨a4, e_a4, h⟩ := h
        refine jGetR C 328 (by decide +kernel : decode cX11_reckonAll 325 = .ok (.getfield 111, 3)) rfl t_v0 kX11 39 (by decide) rfl rfl (by decide) wd_1193 e_a4 rfl (fun t_a4 => ?_)
        refine jB C [(.iload_n 3, 1, 0), (.iconst 1, 1, 1), (.isub, 1, 0)] 331 [(4, .int (v4 + 1)), (6, .int u0), (0, .ref (b + v0)), (2, .int v2), (3, .int v3), (5, .int v5)] [.int (v3 - 1), .ref (b + a4)] (by decide +kernel) rfl rfl ?_
        obtain ⟨y5, h⟩ := h
        refine jLald C 332 (by decide +kernel : decode cX11_reckonAll 331 = .ok (.laload, 1)) rfl t_a4 y5 ?_
        refine jB C [(.iload 5, 2, 0), (.bipush 29, 2, 29)] 336 [(4, .int (v4 + 1)), (6, .int u0), (0, .ref (b + v0)), (2, .int v2), (3, .int v3), (5, .int v5)] [.int 29, .int v5, .long (S.2.1 a4 (v3 - 1).toNatClampNeg)] (by decide +kernel) rfl rfl ?_
        refine jIcmp_ne C 339 343 (by decide +kernel : decode cX11_reckonAll 336 = .ok (.if_icmp .ne 7, 3)) rfl rfl (fun c6 => ?_) (fun c6 => ?_)
        · have h := it2 h c6
          refine jB C [(.lconst 1, 1, 0)] 344 [(4, .int (v4 + 1)), (6, .int u0), (0, .ref (b + v0)), (2, .int v2), (3, .int v3), (5, .int v5)] [.long 1, .long (S.2.1 a4 (v3 - 1).toNatClampNeg)] (by decide +kernel) rfl rfl ?_
          refine jSub [2, 3, 4, 0, 1] rfl ?_
          exact j_X11_reckonAll_344 C hE t_v0 hk10 h
        · have h := it1 h c6
          refine jB C [(.lconst 0, 1, 0)] 340 [(4, .int (v4 + 1)), (6, .int u0), (0, .ref (b + v0)), (2, .int v2), (3, .int v3), (5, .int v5)] [.long 0, .long (S.2.1 a4 (v3 - 1).toNatClampNeg)] (by decide +kernel) rfl rfl ?_
          refine jGoto C 344 (by decide +kernel : decode cX11_reckonAll 340 = .ok (.goto 4, 3)) rfl ?_
          refine jSub [2, 3, 4, 0, 1] rfl ?_
          exact j_X11_reckonAll_344 C hE t_v0 hk10 h
      · have h := it1 h c3
        refine jB C [(.aload_n 0, 1, 0)] 304 [(4, .int (v4 + 1)), (6, .int u0), (0, .ref (b + v0)), (2, .int v2), (3, .int v3), (5, .int v5)] [.ref (b + v0)] (by decide +kernel) rfl rfl ?_
        obtain ⟨a7, e_a7, h⟩ := h
        refine jGetR C 307 (by decide +kernel : decode cX11_reckonAll 304 = .ok (.getfield 111, 3)) rfl t_v0 kX11 39 (by decide) rfl rfl (by decide) wd_1193 e_a7 rfl (fun t_a7 => ?_)
        refine jB C [(.iload_n 3, 1, 0), (.iconst 1, 1, 1), (.isub, 1, 0), (.lconst 1, 1, 0), (.aload_n 0, 1, 0)] 312 [(4, .int (v4 + 1)), (6, .int u0), (0, .ref (b + v0)), (2, .int v2), (3, .int v3), (5, .int v5)] [.ref (b + v0), .long 1, .int (v3 - 1), .ref (b + a7)] (by decide +kernel) rfl rfl ?_
        obtain ⟨a8, e_a8, h⟩ := h
        refine jGetR C 315 (by decide +kernel : decode cX11_reckonAll 312 = .ok (.getfield 111, 3)) rfl t_v0 kX11 39 (by decide) rfl rfl (by decide) wd_1193 e_a8 rfl (fun t_a8 => ?_)
        refine jB C [(.iload_n 3, 1, 0), (.iconst 1, 1, 1), (.isub, 1, 0)] 318 [(4, .int (v4 + 1)), (6, .int u0), (0, .ref (b + v0)), (2, .int v2), (3, .int v3), (5, .int v5)] [.int (v3 - 1), .ref (b + a8), .long 1, .int (v3 - 1), .ref (b + a7)] (by decide +kernel) rfl rfl ?_
        obtain ⟨y9, h⟩ := h
        refine jLald C 319 (by decide +kernel : decode cX11_reckonAll 318 = .ok (.laload, 1)) rfl t_a8 y9 ?_
        refine jB C [(.lsub, 1, 0)] 320 [(4, .int (v4 + 1)), (6, .int u0), (0, .ref (b + v0)), (2, .int v2), (3, .int v3), (5, .int v5)] [.long (1 - (S.2.1 a8 (v3 - 1).toNatClampNeg)), .int (v3 - 1), .ref (b + a7)] (by decide +kernel) rfl rfl ?_
        obtain ⟨y10, h⟩ := h
        refine jLast C 321 (by decide +kernel : decode cX11_reckonAll 320 = .ok (.lastore, 1)) rfl hE t_a7 y10 ?_
        refine jTopS (fun S11 e_S11 => ?_)
        have h := h S11 e_S11
        refine jGoto C 358 (by decide +kernel : decode cX11_reckonAll 321 = .ok (.goto 37, 3)) rfl ?_
        refine jGoto C 10 (by decide +kernel : decode cX11_reckonAll 358 = .ok (.goto (-348), 3)) rfl ?_
        refine jSub [2, 3, 4, 0] rfl ?_
        exact hk10 v3 (v4 + 1) S11 h
    · have h := it2 h c2
      refine jB C [(.iinc 3 (-1), 3, (-1)), (.aload_n 0, 1, 0)] 230 [(3, .int (v3 + (-1))), (4, .int (v4 + 1)), (6, .int u0), (0, .ref (b + v0)), (2, .int v2), (5, .int v5)] [.ref (b + v0)] (by decide +kernel) rfl rfl ?_
      obtain ⟨a12, e_a12, h⟩ := h
      refine jGetR C 233 (by decide +kernel : decode cX11_reckonAll 230 = .ok (.getfield 111, 3)) rfl t_v0 kX11 39 (by decide) rfl rfl (by decide) wd_1193 e_a12 rfl (fun t_a12 => ?_)
      refine jB C [(.iload_n 3, 1, 0), (.iconst 1, 1, 1), (.isub, 1, 0), (.aload_n 0, 1, 0), (.iload 5, 2, 0), (.aload_n 0, 1, 0)] 240 [(3, .int (v3 + (-1))), (4, .int (v4 + 1)), (6, .int u0), (0, .ref (b + v0)), (2, .int v2), (5, .int v5)] [.ref (b + v0), .int v5, .ref (b + v0), .int ((v3 + (-1)) - 1), .ref (b + a12)] (by decide +kernel) rfl rfl ?_
      obtain ⟨a13, e_a13, h⟩ := h
      refine jGetR C 243 (by decide +kernel : decode cX11_reckonAll 240 = .ok (.getfield 111, 3)) rfl t_v0 kX11 39 (by decide) rfl rfl (by decide) wd_1193 e_a13 rfl (fun t_a13 => ?_)
      refine jB C [(.iload_n 3, 1, 0), (.iconst 1, 1, 1), (.isub, 1, 0)] 246 [(3, .int (v3 + (-1))), (4, .int (v4 + 1)), (6, .int u0), (0, .ref (b + v0)), (2, .int v2), (5, .int v5)] [.int ((v3 + (-1)) - 1), .ref (b + a13), .int v5, .ref (b + v0), .int ((v3 + (-1)) - 1), .ref (b + a12)] (by decide +kernel) rfl rfl ?_
      obtain ⟨y14, h⟩ := h
      refine jLald C 247 (by decide +kernel : decode cX11_reckonAll 246 = .ok (.laload, 1)) rfl t_a13 y14 ?_
      refine jB C [(.aload_n 0, 1, 0)] 248 [(3, .int (v3 + (-1))), (4, .int (v4 + 1)), (6, .int u0), (0, .ref (b + v0)), (2, .int v2), (5, .int v5)] [.ref (b + v0), .long (S.2.1 a13 ((v3 + (-1)) - 1).toNatClampNeg), .int v5, .ref (b + v0), .int ((v3 + (-1)) - 1), .ref (b + a12)] (by decide +kernel) rfl rfl ?_
      obtain ⟨a15, e_a15, h⟩ := h
      refine jGetR C 251 (by decide +kernel : decode cX11_reckonAll 248 = .ok (.getfield 111, 3)) rfl t_v0 kX11 39 (by decide) rfl rfl (by decide) wd_1193 e_a15 rfl (fun t_a15 => ?_)
      refine jB C [(.iload_n 3, 1, 0)] 252 [(3, .int (v3 + (-1))), (4, .int (v4 + 1)), (6, .int u0), (0, .ref (b + v0)), (2, .int v2), (5, .int v5)] [.int (v3 + (-1)), .ref (b + a15), .long (S.2.1 a13 ((v3 + (-1)) - 1).toNatClampNeg), .int v5, .ref (b + v0), .int ((v3 + (-1)) - 1), .ref (b + a12)] (by decide +kernel) rfl rfl ?_
      obtain ⟨y16, h⟩ := h
      refine jLald C 253 (by decide +kernel : decode cX11_reckonAll 252 = .ok (.laload, 1)) rfl t_a15 y16 ?_
      refine jcV_L C 256 (rest := [.int ((v3 + (-1)) - 1), .ref (b + a12)]) (ok_X11_reckon t_v0 h) (by decide +kernel : decode cX11_reckonAll 253 = .ok (.invokevirtual 428, 3)) rfl wd_1421 wd_1423 wp_112 wd_12 wd_1424 ⟨rfl, rfl⟩ hd_X11_reckon ⟨Nat.le_of_ble_eq_true rfl, Nat.le_of_ble_eq_true rfl⟩ t_v0 kX11 (by decide) rfl rfl rfl (Nat.le_of_ble_eq_true rfl) ⟨Nat.zero_le _, Nat.zero_le _⟩ (fun r18 S17 h => ?_)
      obtain ⟨y19, h⟩ := h
      refine jLast C 257 (by decide +kernel : decode cX11_reckonAll 256 = .ok (.lastore, 1)) rfl hE t_a12 y19 ?_
      refine jTopS (fun S20 e_S20 => ?_)
      have h := h S20 e_S20
      refine jB C [(.aload_n 0, 1, 0), (.aload_n 0, 1, 0)] 259 [(3, .int (v3 + (-1))), (4, .int (v4 + 1)), (6, .int u0), (0, .ref (b + v0)), (2, .int v2), (5, .int v5)] [.ref (b + v0), .ref (b + v0)] (by decide +kernel) rfl rfl ?_
      refine jGetI C 262 (by decide +kernel : decode cX11_reckonAll 259 = .ok (.getfield 419, 3)) rfl t_v0 kX11 40 (by decide) rfl rfl (by decide) wd_1194 ?_
      refine jIf_ne C 265 285 (by decide +kernel : decode cX11_reckonAll 262 = .ok (.ifCond .ne 23, 3)) rfl rfl (fun c21 => ?_) (fun c21 => ?_)
      · have h := it2 h c21
        refine jSub [3, 4, 0, 1] rfl ?_
        exact j_X11_reckonAll_285 C hE t_v0 t_v0 hk10 h
      · have h := it1 h c21
        refine jB C [(.aload_n 0, 1, 0)] 266 [(3, .int (v3 + (-1))), (4, .int (v4 + 1)), (6, .int u0), (0, .ref (b + v0)), (2, .int v2), (5, .int v5)] [.ref (b + v0), .ref (b + v0)] (by decide +kernel) rfl rfl ?_
        obtain ⟨a22, e_a22, h⟩ := h
        refine jGetR C 269 (by decide +kernel : decode cX11_reckonAll 266 = .ok (.getfield 111, 3)) rfl t_v0 kX11 39 (by decide) rfl rfl (by decide) wd_1193 e_a22 rfl (fun t_a22 => ?_)
        refine jB C [(.iload_n 3, 1, 0), (.iconst 1, 1, 1), (.isub, 1, 0)] 272 [(3, .int (v3 + (-1))), (4, .int (v4 + 1)), (6, .int u0), (0, .ref (b + v0)), (2, .int v2), (5, .int v5)] [.int ((v3 + (-1)) - 1), .ref (b + a22), .ref (b + v0)] (by decide +kernel) rfl rfl ?_
        obtain ⟨y23, h⟩ := h
        refine jLald C 273 (by decide +kernel : decode cX11_reckonAll 272 = .ok (.laload, 1)) rfl t_a22 y23 ?_
        refine jLdc2 C 276 (by decide +kernel : decode cX11_reckonAll 273 = .ok (.ldc2_w 432, 3)) rfl wd_1425 ?_
        refine jLdc2 C 279 (by decide +kernel : decode cX11_reckonAll 276 = .ok (.ldc2_w 434, 3)) rfl wd_1426 ?_
        refine jcS_I C 282 (rest := [.ref (b + v0)]) (ok_X11_in h) (by decide +kernel : decode cX11_reckonAll 279 = .ok (.invokestatic 185, 3)) rfl wd_1352 wd_1353 wd_12 wd_1354 ⟨rfl, rfl⟩ hd_X11_in ⟨Nat.le_of_ble_eq_true rfl, Nat.le_of_ble_eq_true rfl⟩ rfl rfl (Nat.le_of_ble_eq_true rfl) ⟨Nat.zero_le _, Nat.zero_le _⟩ (fun r25 S24 h => ?_)
        refine jIf_ne C 285 289 (by decide +kernel : decode cX11_reckonAll 282 = .ok (.ifCond .ne 7, 3)) rfl rfl (fun c26 => ?_) (fun c26 => ?_)
        · have h := it2 h c26
          refine jB C [(.iconst 0, 1, 0)] 290 [(3, .int (v3 + (-1))), (4, .int (v4 + 1)), (6, .int u0), (0, .ref (b + v0)), (2, .int v2), (5, .int v5)] [.int 0, .ref (b + v0)] (by decide +kernel) rfl rfl ?_
          refine jSub [3, 4, 0, 1] rfl ?_
          exact j_X11_reckonAll_290 C hE t_v0 t_v0 hk10 h
        · have h := it1 h c26
          refine jSub [3, 4, 0, 1] rfl ?_
          exact j_X11_reckonAll_285 C hE t_v0 t_v0 hk10 h
  · have h := it2 h c1
    refine jB C [(.aload_n 0, 1, 0)] 108 [(4, .int (v4 + 1)), (6, .int u0), (0, .ref (b + v0)), (2, .int v2), (3, .int v3), (5, .int v5)] [.ref (b + v0)] (by decide +kernel) rfl rfl ?_
    obtain ⟨a27, e_a27, h⟩ := h
    refine jGetR C 111 (by decide +kernel : decode cX11_reckonAll 108 = .ok (.getfield 111, 3)) rfl t_v0 kX11 39 (by decide) rfl rfl (by decide) wd_1193 e_a27 rfl (fun t_a27 => ?_)
    refine jB C [(.iload_n 3, 1, 0), (.iload 5, 2, 0)] 114 [(4, .int (v4 + 1)), (6, .int u0), (0, .ref (b + v0)), (2, .int v2), (3, .int v3), (5, .int v5)] [.int v5, .int v3, .ref (b + a27)] (by decide +kernel) rfl rfl ?_
    refine jIf_ne C 117 123 (by decide +kernel : decode cX11_reckonAll 114 = .ok (.ifCond .ne 9, 3)) rfl rfl (fun c28 => ?_) (fun c28 => ?_)
    · have h := it2 h c28
      refine jB C [(.aload_n 0, 1, 0)] 124 [(4, .int (v4 + 1)), (6, .int u0), (0, .ref (b + v0)), (2, .int v2), (3, .int v3), (5, .int v5)] [.ref (b + v0), .int v3, .ref (b + a27)] (by decide +kernel) rfl rfl ?_
      refine jGetI C 127 (by decide +kernel : decode cX11_reckonAll 124 = .ok (.getfield 347, 3)) rfl t_v0 kX11 21 (by decide) rfl rfl (by decide) wd_1175 ?_
      refine jIf_ne C 130 140 (by decide +kernel : decode cX11_reckonAll 127 = .ok (.ifCond .ne 13, 3)) rfl rfl (fun c29 => ?_) (fun c29 => ?_)
      · have h := it2 h c29
        refine jB C [(.iload 5, 2, 0), (.iconst 5, 1, 5)] 143 [(4, .int (v4 + 1)), (6, .int u0), (0, .ref (b + v0)), (2, .int v2), (3, .int v3), (5, .int v5)] [.int 5, .int v5, .int v3, .ref (b + a27)] (by decide +kernel) rfl rfl ?_
        refine jIcmp_ge C 146 156 (by decide +kernel : decode cX11_reckonAll 143 = .ok (.if_icmp .ge 13, 3)) rfl rfl (fun c30 => ?_) (fun c30 => ?_)
        · have h := it1 h c30
          refine jB C [(.aload_n 0, 1, 0), (.iload 6, 2, 0)] 159 [(4, .int (v4 + 1)), (6, .int u0), (0, .ref (b + v0)), (2, .int v2), (3, .int v3), (5, .int v5)] [.int u0, .ref (b + v0), .int v3, .ref (b + a27)] (by decide +kernel) rfl rfl ?_
          refine jcV_I C 162 (rest := [.int v3, .ref (b + a27)]) (ok_X11_isPerson t_v0 h) (by decide +kernel : decode cX11_reckonAll 159 = .ok (.invokevirtual 209, 3)) rfl wd_1376 wd_1378 wp_103 wd_12 wd_1379 ⟨rfl, rfl⟩ hd_X11_isPerson ⟨Nat.le_of_ble_eq_true rfl, Nat.le_of_ble_eq_true rfl⟩ t_v0 kX11 (by decide) rfl rfl rfl (Nat.le_of_ble_eq_true rfl) ⟨Nat.zero_le _, Nat.zero_le _⟩ (fun r32 S31 h => ?_)
          refine jIf_ne C 165 171 (by decide +kernel : decode cX11_reckonAll 162 = .ok (.ifCond .ne 9, 3)) rfl rfl (fun c33 => ?_) (fun c33 => ?_)
          · have h := it2 h c33
            refine jB C [(.iload 5, 2, 0), (.iconst 5, 1, 5)] 174 [(4, .int (v4 + 1)), (6, .int u0), (0, .ref (b + v0)), (2, .int v2), (3, .int v3), (5, .int v5)] [.int 5, .int v5, .int v3, .ref (b + a27)] (by decide +kernel) rfl rfl ?_
            refine jIcmp_ne C 177 187 (by decide +kernel : decode cX11_reckonAll 174 = .ok (.if_icmp .ne 13, 3)) rfl rfl (fun c34 => ?_) (fun c34 => ?_)
            · have h := it2 h c34
              refine jB C [(.iload 5, 2, 0), (.bipush 6, 2, 6)] 191 [(4, .int (v4 + 1)), (6, .int u0), (0, .ref (b + v0)), (2, .int v2), (3, .int v3), (5, .int v5)] [.int 6, .int v5, .int v3, .ref (b + a27)] (by decide +kernel) rfl rfl ?_
              refine jIcmp_ne C 194 204 (by decide +kernel : decode cX11_reckonAll 191 = .ok (.if_icmp .ne 13, 3)) rfl rfl (fun c35 => ?_) (fun c35 => ?_)
              · have h := it2 h c35
                refine jB C [(.aload_n 0, 1, 0)] 205 [(4, .int (v4 + 1)), (6, .int u0), (0, .ref (b + v0)), (2, .int v2), (3, .int v3), (5, .int v5)] [.ref (b + v0), .int v3, .ref (b + a27)] (by decide +kernel) rfl rfl ?_
                obtain ⟨a36, e_a36, h⟩ := h
                refine jGetR C 208 (by decide +kernel : decode cX11_reckonAll 205 = .ok (.getfield 108, 3)) rfl t_v0 kX11 38 (by decide) rfl rfl (by decide) wd_1192 e_a36 rfl (fun t_a36 => ?_)
                refine jB C [(.iload 6, 2, 0)] 210 [(4, .int (v4 + 1)), (6, .int u0), (0, .ref (b + v0)), (2, .int v2), (3, .int v3), (5, .int v5)] [.int u0, .ref (b + a36), .int v3, .ref (b + a27)] (by decide +kernel) rfl rfl ?_
                obtain ⟨y37, h⟩ := h
                refine jIald C 211 (by decide +kernel : decode cX11_reckonAll 210 = .ok (.iaload, 1)) rfl t_a36 y37 ?_
                refine jB C [(.i2l, 1, 0)] 212 [(4, .int (v4 + 1)), (6, .int u0), (0, .ref (b + v0)), (2, .int v2), (3, .int v3), (5, .int v5)] [.long ((S31.1 a36 u0.toNatClampNeg).toInt64), .int v3, .ref (b + a27)] (by decide +kernel) rfl rfl ?_
                refine jSub [2, 3, 4, 0] rfl ?_
                exact j_X11_reckonAll_212 C hE t_v0 t_a27 hk10 h
              · have h := it1 h c35
                refine jB C [(.aload_n 0, 1, 0), (.iload 6, 2, 0)] 197 [(4, .int (v4 + 1)), (6, .int u0), (0, .ref (b + v0)), (2, .int v2), (3, .int v3), (5, .int v5)] [.int u0, .ref (b + v0), .int v3, .ref (b + a27)] (by decide +kernel) rfl rfl ?_
                refine jcV_I C 200 (rest := [.int v3, .ref (b + a27)]) (ok_X11_sightOf t_v0 h) (by decide +kernel : decode cX11_reckonAll 197 = .ok (.invokevirtual 215, 3)) rfl wd_1386 wd_1388 wp_105 wd_12 wd_1389 ⟨rfl, rfl⟩ hd_X11_sightOf ⟨Nat.le_of_ble_eq_true rfl, Nat.le_of_ble_eq_true rfl⟩ t_v0 kX11 (by decide) rfl rfl rfl (Nat.le_of_ble_eq_true rfl) ⟨Nat.zero_le _, Nat.zero_le _⟩ (fun r39 S38 h => ?_)
                refine jB C [(.i2l, 1, 0)] 201 [(4, .int (v4 + 1)), (6, .int u0), (0, .ref (b + v0)), (2, .int v2), (3, .int v3), (5, .int v5)] [.long r39.toInt64, .int v3, .ref (b + a27)] (by decide +kernel) rfl rfl ?_
                refine jGoto C 212 (by decide +kernel : decode cX11_reckonAll 201 = .ok (.goto 11, 3)) rfl ?_
                refine jSub [2, 3, 4, 0] rfl ?_
                exact j_X11_reckonAll_212 C hE t_v0 t_a27 hk10 h
            · have h := it1 h c34
              refine jB C [(.aload_n 0, 1, 0), (.iload 6, 2, 0)] 180 [(4, .int (v4 + 1)), (6, .int u0), (0, .ref (b + v0)), (2, .int v2), (3, .int v3), (5, .int v5)] [.int u0, .ref (b + v0), .int v3, .ref (b + a27)] (by decide +kernel) rfl rfl ?_
              refine jcV_I C 183 (rest := [.int v3, .ref (b + a27)]) (ok_X11_sinsOf t_v0 h) (by decide +kernel : decode cX11_reckonAll 180 = .ok (.invokevirtual 425, 3)) rfl wd_1406 wd_1408 wp_109 wd_12 wd_1409 ⟨rfl, rfl⟩ hd_X11_sinsOf ⟨Nat.le_of_ble_eq_true rfl, Nat.le_of_ble_eq_true rfl⟩ t_v0 kX11 (by decide) rfl rfl rfl (Nat.le_of_ble_eq_true rfl) ⟨Nat.zero_le _, Nat.zero_le _⟩ (fun r41 S40 h => ?_)
              refine jB C [(.i2l, 1, 0)] 184 [(4, .int (v4 + 1)), (6, .int u0), (0, .ref (b + v0)), (2, .int v2), (3, .int v3), (5, .int v5)] [.long r41.toInt64, .int v3, .ref (b + a27)] (by decide +kernel) rfl rfl ?_
              refine jGoto C 212 (by decide +kernel : decode cX11_reckonAll 184 = .ok (.goto 28, 3)) rfl ?_
              refine jSub [2, 3, 4, 0] rfl ?_
              exact j_X11_reckonAll_212 C hE t_v0 t_a27 hk10 h
          · have h := it1 h c33
            refine jLdc2 C 168 (by decide +kernel : decode cX11_reckonAll 165 = .ok (.ldc2_w 298, 3)) rfl wd_1405 ?_
            refine jGoto C 212 (by decide +kernel : decode cX11_reckonAll 168 = .ok (.goto 44, 3)) rfl ?_
            refine jSub [2, 3, 4, 0] rfl ?_
            exact j_X11_reckonAll_212 C hE t_v0 t_a27 hk10 h
        · have h := it2 h c30
          refine jB C [(.aload_n 0, 1, 0)] 147 [(4, .int (v4 + 1)), (6, .int u0), (0, .ref (b + v0)), (2, .int v2), (3, .int v3), (5, .int v5)] [.ref (b + v0), .int v3, .ref (b + a27)] (by decide +kernel) rfl rfl ?_
          obtain ⟨a42, e_a42, h⟩ := h
          refine jGetR C 150 (by decide +kernel : decode cX11_reckonAll 147 = .ok (.getfield 105, 3)) rfl t_v0 kX11 37 (by decide) rfl rfl (by decide) wd_1191 e_a42 rfl (fun t_a42 => ?_)
          refine jB C [(.iload 5, 2, 0)] 152 [(4, .int (v4 + 1)), (6, .int u0), (0, .ref (b + v0)), (2, .int v2), (3, .int v3), (5, .int v5)] [.int v5, .ref (b + a42), .int v3, .ref (b + a27)] (by decide +kernel) rfl rfl ?_
          obtain ⟨y43, h⟩ := h
          refine jLald C 153 (by decide +kernel : decode cX11_reckonAll 152 = .ok (.laload, 1)) rfl t_a42 y43 ?_
          refine jGoto C 212 (by decide +kernel : decode cX11_reckonAll 153 = .ok (.goto 59, 3)) rfl ?_
          refine jSub [2, 3, 4, 0] rfl ?_
          exact j_X11_reckonAll_212 C hE t_v0 t_a27 hk10 h
      · have h := it1 h c29
        refine jB C [(.aload_n 0, 1, 0)] 131 [(4, .int (v4 + 1)), (6, .int u0), (0, .ref (b + v0)), (2, .int v2), (3, .int v3), (5, .int v5)] [.ref (b + v0), .int v3, .ref (b + a27)] (by decide +kernel) rfl rfl ?_
        obtain ⟨a44, e_a44, h⟩ := h
        refine jGetR C 134 (by decide +kernel : decode cX11_reckonAll 131 = .ok (.getfield 102, 3)) rfl t_v0 kX11 36 (by decide) rfl rfl (by decide) wd_1190 e_a44 rfl (fun t_a44 => ?_)
        refine jB C [(.iload 5, 2, 0)] 136 [(4, .int (v4 + 1)), (6, .int u0), (0, .ref (b + v0)), (2, .int v2), (3, .int v3), (5, .int v5)] [.int v5, .ref (b + a44), .int v3, .ref (b + a27)] (by decide +kernel) rfl rfl ?_
        obtain ⟨y45, h⟩ := h
        refine jLald C 137 (by decide +kernel : decode cX11_reckonAll 136 = .ok (.laload, 1)) rfl t_a44 y45 ?_
        refine jGoto C 212 (by decide +kernel : decode cX11_reckonAll 137 = .ok (.goto 75, 3)) rfl ?_
        refine jSub [2, 3, 4, 0] rfl ?_
        exact j_X11_reckonAll_212 C hE t_v0 t_a27 hk10 h
    · have h := it1 h c28
      refine jB C [(.iload 6, 2, 0), (.i2l, 1, 0)] 120 [(4, .int (v4 + 1)), (6, .int u0), (0, .ref (b + v0)), (2, .int v2), (3, .int v3), (5, .int v5)] [.long u0.toInt64, .int v3, .ref (b + a27)] (by decide +kernel) rfl rfl ?_
      refine jGoto C 212 (by decide +kernel : decode cX11_reckonAll 120 = .ok (.goto 92, 3)) rfl ?_
      refine jSub [2, 3, 4, 0] rfl ?_
      exact j_X11_reckonAll_212 C hE t_v0 t_a27 hk10 h
set_option maxHeartbeats 4000000 in
set_option maxRecDepth 100000 in
theorem j_X11_reckonAll_57 {p : Program} {l : Launch} {e : Env} {s : State} {m : MethodId} {args : Array Value} {below : List Frame} {meth : Method} {c : Code} {b : Nat} {D : va_G} {cy : Nat → ClassId} {G : Gm} {k10 : Int32 → Int32 → St → Prop} {v0 : Nat} {v2 : Int32} {v3 : Int32} {v4 : Int32} {u0 : Int32} {S : St} {Q : St → Prop} (C : CX p s m args meth c b D cy cX11_reckonAll RX11 7 none) (hE : s.heap.size + 0 ≤ b + G.2.2) (t_v0 : ok G 10 v0) (hk10 : ∀ v3' v4' S, k10 v3' v4' S → J p l e rm_X11_reckonAll s m args below meth c b D cy 7 (zV b D cy below args s G Q) 0 0 G S 10 [(0, .ref (b + v0)), (2, .int v2), (3, .int (v3')), (4, .int (v4'))] []) (h : f_X11_reckonAll_57 G k10 v0 v2 v3 v4 u0 Q S) : J p l e rm_X11_reckonAll s m args below meth c b D cy 7 (zV b D cy below args s G Q) 0 0 G S 57 [(0, .ref (b + v0)), (2, .int v2), (3, .int v3), (4, .int v4)] [.int u0] := by
  unfold f_X11_reckonAll_57 at h
  refine jB C [(.istore 5, 2, 0), (.aload_n 0, 1, 0)] 60 [(5, .int u0), (0, .ref (b + v0)), (2, .int v2), (3, .int v3), (4, .int v4)] [.ref (b + v0)] (by decide +kernel) rfl rfl ?_
  refine jGetI C 63 (by decide +kernel : decode cX11_reckonAll 60 = .ok (.getfield 347, 3)) rfl t_v0 kX11 21 (by decide) rfl rfl (by decide) wd_1175 ?_
  refine jIf_eq C 66 76 (by decide +kernel : decode cX11_reckonAll 63 = .ok (.ifCond .eq 13, 3)) rfl rfl (fun c1 => ?_) (fun c1 => ?_)
  · have h := it1 h c1
    refine jB C [(.aload_n 0, 1, 0)] 77 [(5, .int u0), (0, .ref (b + v0)), (2, .int v2), (3, .int v3), (4, .int v4)] [.ref (b + v0)] (by decide +kernel) rfl rfl ?_
    obtain ⟨a2, e_a2, h⟩ := h
    refine jGetR C 80 (by decide +kernel : decode cX11_reckonAll 77 = .ok (.getfield 16, 3)) rfl t_v0 kX11 4 (by decide) rfl rfl (by decide) wd_1158 e_a2 rfl (fun t_a2 => ?_)
    refine jB C [(.aload_n 0, 1, 0)] 81 [(5, .int u0), (0, .ref (b + v0)), (2, .int v2), (3, .int v3), (4, .int v4)] [.ref (b + v0), .ref (b + a2)] (by decide +kernel) rfl rfl ?_
    refine jGetI C 84 (by decide +kernel : decode cX11_reckonAll 81 = .ok (.getfield 422, 3)) rfl t_v0 kX11 35 (by decide) rfl rfl (by decide) wd_1189 ?_
    refine jB C [(.bipush 98, 2, 98), (.iadd, 1, 0), (.iconst 2, 1, 2), (.iload 4, 2, 0), (.imul, 1, 0), (.iadd, 1, 0), (.iconst 1, 1, 1), (.iadd, 1, 0)] 94 [(5, .int u0), (0, .ref (b + v0)), (2, .int v2), (3, .int v3), (4, .int v4)] [.int ((((S.1 v0 35) + 98) + (2 * v4)) + 1), .ref (b + a2)] (by decide +kernel) rfl rfl ?_
    obtain ⟨y3, h⟩ := h
    refine jIald C 95 (by decide +kernel : decode cX11_reckonAll 94 = .ok (.iaload, 1)) rfl t_a2 y3 ?_
    refine jSub [1, 2, 3, 4, 0] rfl ?_
    exact j_X11_reckonAll_95 C hE t_v0 hk10 h
  · have h := it2 h c1
    refine jB C [(.aload_n 0, 1, 0)] 67 [(5, .int u0), (0, .ref (b + v0)), (2, .int v2), (3, .int v3), (4, .int v4)] [.ref (b + v0)] (by decide +kernel) rfl rfl ?_
    obtain ⟨a4, e_a4, h⟩ := h
    refine jGetR C 70 (by decide +kernel : decode cX11_reckonAll 67 = .ok (.getfield 51, 3)) rfl t_v0 kX11 26 (by decide) rfl rfl (by decide) wd_1180 e_a4 rfl (fun t_a4 => ?_)
    refine jB C [(.iload 4, 2, 0)] 72 [(5, .int u0), (0, .ref (b + v0)), (2, .int v2), (3, .int v3), (4, .int v4)] [.int v4, .ref (b + a4)] (by decide +kernel) rfl rfl ?_
    obtain ⟨y5, h⟩ := h
    refine jIald C 73 (by decide +kernel : decode cX11_reckonAll 72 = .ok (.iaload, 1)) rfl t_a4 y5 ?_
    refine jGoto C 95 (by decide +kernel : decode cX11_reckonAll 73 = .ok (.goto 22, 3)) rfl ?_
    refine jSub [1, 2, 3, 4, 0] rfl ?_
    exact j_X11_reckonAll_95 C hE t_v0 hk10 h
set_option maxHeartbeats 4000000 in
set_option maxRecDepth 100000 in
theorem j_X11_reckonAll_10_n {p : Program} {l : Launch} {e : Env} {s : State} {m : MethodId} {args : Array Value} {below : List Frame} {meth : Method} {c : Code} {b : Nat} {D : va_G} {cy : Nat → ClassId} {G : Gm} {v0 : Nat} {v2 : Int32} {Q : St → Prop} (C : CX p s m args meth c b D cy cX11_reckonAll RX11 7 none) (hE : s.heap.size + 0 ≤ b + G.2.2) (t_v0 : ok G 10 v0) : ∀ k (v3 : Int32) (v4 : Int32) S, f_X11_reckonAll_10_n G v0 v2 Q k v3 v4 S → J p l e rm_X11_reckonAll s m args below meth c b D cy 7 (zV b D cy below args s G Q) 0 0 G S 10 [(0, .ref (b + v0)), (2, .int v2), (3, .int v3), (4, .int v4)] [] := by
  intro k
  induction k with
  | zero => intro v3 v4 S h; exact h.elim
  | succ k ih =>
    intro v3 v4 S h
    unfold f_X11_reckonAll_10_n at h
    refine jB C [(.iload 4, 2, 0), (.iload_n 2, 1, 0)] 13 [(0, .ref (b + v0)), (2, .int v2), (3, .int v3), (4, .int v4)] [.int v2, .int v4] (by decide +kernel) rfl rfl ?_
    refine jIcmp_ge C 16 361 (by decide +kernel : decode cX11_reckonAll 13 = .ok (.if_icmp .ge 348, 3)) rfl rfl (fun c1 => ?_) (fun c1 => ?_)
    · have h := it1 h c1
      refine jSub [0, 2] rfl ?_
      exact j_X11_reckonAll_361 C hE t_v0 h
    · have h := it2 h c1
      refine jB C [(.aload_n 0, 1, 0)] 17 [(0, .ref (b + v0)), (2, .int v2), (3, .int v3), (4, .int v4)] [.ref (b + v0)] (by decide +kernel) rfl rfl ?_
      refine jGetI C 20 (by decide +kernel : decode cX11_reckonAll 17 = .ok (.getfield 419, 3)) rfl t_v0 kX11 40 (by decide) rfl rfl (by decide) wd_1194 ?_
      refine jIf_ne C 23 361 (by decide +kernel : decode cX11_reckonAll 20 = .ok (.ifCond .ne 341, 3)) rfl rfl (fun c2 => ?_) (fun c2 => ?_)
      · have h := it2 h c2
        refine jSub [0, 2] rfl ?_
        exact j_X11_reckonAll_361 C hE t_v0 h
      · have h := it1 h c2
        refine jB C [(.aload_n 0, 1, 0)] 24 [(0, .ref (b + v0)), (2, .int v2), (3, .int v3), (4, .int v4)] [.ref (b + v0)] (by decide +kernel) rfl rfl ?_
        refine jGetI C 27 (by decide +kernel : decode cX11_reckonAll 24 = .ok (.getfield 347, 3)) rfl t_v0 kX11 21 (by decide) rfl rfl (by decide) wd_1175 ?_
        refine jIf_eq C 30 40 (by decide +kernel : decode cX11_reckonAll 27 = .ok (.ifCond .eq 13, 3)) rfl rfl (fun c3 => ?_) (fun c3 => ?_)
        · have h := it1 h c3
          refine jB C [(.aload_n 0, 1, 0)] 41 [(0, .ref (b + v0)), (2, .int v2), (3, .int v3), (4, .int v4)] [.ref (b + v0)] (by decide +kernel) rfl rfl ?_
          obtain ⟨a4, e_a4, h⟩ := h
          refine jGetR C 44 (by decide +kernel : decode cX11_reckonAll 41 = .ok (.getfield 16, 3)) rfl t_v0 kX11 4 (by decide) rfl rfl (by decide) wd_1158 e_a4 rfl (fun t_a4 => ?_)
          refine jB C [(.aload_n 0, 1, 0)] 45 [(0, .ref (b + v0)), (2, .int v2), (3, .int v3), (4, .int v4)] [.ref (b + v0), .ref (b + a4)] (by decide +kernel) rfl rfl ?_
          refine jGetI C 48 (by decide +kernel : decode cX11_reckonAll 45 = .ok (.getfield 422, 3)) rfl t_v0 kX11 35 (by decide) rfl rfl (by decide) wd_1189 ?_
          refine jB C [(.bipush 98, 2, 98), (.iadd, 1, 0), (.iconst 2, 1, 2), (.iload 4, 2, 0), (.imul, 1, 0), (.iadd, 1, 0)] 56 [(0, .ref (b + v0)), (2, .int v2), (3, .int v3), (4, .int v4)] [.int (((S.1 v0 35) + 98) + (2 * v4)), .ref (b + a4)] (by decide +kernel) rfl rfl ?_
          obtain ⟨y5, h⟩ := h
          refine jIald C 57 (by decide +kernel : decode cX11_reckonAll 56 = .ok (.iaload, 1)) rfl t_a4 y5 ?_
          refine jSub [0, 1, 2, 3] rfl ?_
          exact j_X11_reckonAll_57 C hE t_v0 ih h
        · have h := it2 h c3
          refine jB C [(.aload_n 0, 1, 0)] 31 [(0, .ref (b + v0)), (2, .int v2), (3, .int v3), (4, .int v4)] [.ref (b + v0)] (by decide +kernel) rfl rfl ?_
          obtain ⟨a6, e_a6, h⟩ := h
          refine jGetR C 34 (by decide +kernel : decode cX11_reckonAll 31 = .ok (.getfield 48, 3)) rfl t_v0 kX11 25 (by decide) rfl rfl (by decide) wd_1179 e_a6 rfl (fun t_a6 => ?_)
          refine jB C [(.iload 4, 2, 0)] 36 [(0, .ref (b + v0)), (2, .int v2), (3, .int v3), (4, .int v4)] [.int v4, .ref (b + a6)] (by decide +kernel) rfl rfl ?_
          obtain ⟨y7, h⟩ := h
          refine jIald C 37 (by decide +kernel : decode cX11_reckonAll 36 = .ok (.iaload, 1)) rfl t_a6 y7 ?_
          refine jGoto C 57 (by decide +kernel : decode cX11_reckonAll 37 = .ok (.goto 20, 3)) rfl ?_
          refine jSub [0, 1, 2, 3] rfl ?_
          exact j_X11_reckonAll_57 C hE t_v0 ih h
theorem j_X11_reckonAll_10 {p : Program} {l : Launch} {e : Env} {s : State} {m : MethodId} {args : Array Value} {below : List Frame} {meth : Method} {c : Code} {b : Nat} {D : va_G} {cy : Nat → ClassId} {G : Gm} {v0 : Nat} {v2 : Int32} {v3 : Int32} {v4 : Int32} {S : St} {Q : St → Prop} (C : CX p s m args meth c b D cy cX11_reckonAll RX11 7 none) (hE : s.heap.size + 0 ≤ b + G.2.2) (t_v0 : ok G 10 v0) (h : f_X11_reckonAll_10 G v0 v2 Q v3 v4 S) : J p l e rm_X11_reckonAll s m args below meth c b D cy 7 (zV b D cy below args s G Q) 0 0 G S 10 [(0, .ref (b + v0)), (2, .int v2), (3, .int v3), (4, .int v4)] [] := by
  obtain ⟨k, h⟩ := h
  exact j_X11_reckonAll_10_n C hE t_v0 k v3 v4 S h
set_option maxHeartbeats 4000000 in
set_option maxRecDepth 100000 in
theorem j_X11_reckonAll {p : Program} {l : Launch} {e : Env} {s : State} {m : MethodId} {args : Array Value} {below : List Frame} {meth : Method} {c : Code} {b : Nat} {D : va_G} {cy : Nat → ClassId} {G : Gm} {v0 : Nat} {v1 : Int32} {v2 : Int32} {S : St} {Q : St → Prop} (C : CX p s m args meth c b D cy cX11_reckonAll RX11 7 none) (hE : s.heap.size + 0 ≤ b + G.2.2) (t_v0 : ok G 10 v0) (h : f_X11_reckonAll G v0 v1 v2 Q S) : J p l e rm_X11_reckonAll s m args below meth c b D cy 7 (zV b D cy below args s G Q) 0 0 G S 0 [(0, .ref (b + v0)), (1, .int v1), (2, .int v2)] [] := by
  unfold f_X11_reckonAll at h
  refine jB C [(.aload_n 0, 1, 0), (.iconst 0, 1, 0)] 2 [(0, .ref (b + v0)), (1, .int v1), (2, .int v2)] [.int 0, .ref (b + v0)] (by decide +kernel) rfl rfl ?_
  refine jPutI C 5 (by decide +kernel : decode cX11_reckonAll 2 = .ok (.putfield 419, 3)) rfl hE t_v0 kX11 40 (by decide) rfl rfl (by decide) rfl wd_1194 rfl (by decide) (by decide) ?_
  refine jTopS (fun S1 e_S1 => ?_)
  have h := h S1 e_S1
  refine jB C [(.iconst 0, 1, 0), (.istore_n 3, 1, 0), (.iload_n 1, 1, 0), (.istore 4, 2, 0)] 10 [(4, .int v1), (3, .int 0), (0, .ref (b + v0)), (1, .int v1), (2, .int v2)] [] (by decide +kernel) rfl rfl ?_
  refine jSub [2, 4, 1, 0] rfl ?_
  exact j_X11_reckonAll_10 C hE t_v0 h
theorem ok_X11_reckonAll {G : Gm} {v0 : Nat} {v1 : Int32} {v2 : Int32} {S : St} {Q : St → Prop}  (t_v0 : ok G 10 v0) (h : f_X11_reckonAll G v0 v1 v2 Q S) : MT yX11_reckonAll cX11_reckonAll 7 none rm_X11_reckonAll 0 0 (fun b => [.ref (b + v0), .int v1, .int v2]) G S (QV (fun G1 S1 => G1 = G ∧ Q S1)) := MT.ofJ (by decide +kernel) (fun b => [(0, .ref (b + v0)), (1, .int v1), (2, .int v2)]) (fun b => rfl) (fun b => Nat.le_of_ble_eq_true rfl) (fun l b D cy p e s m below meth c C hE hn => j_X11_reckonAll C hE t_v0 h)
theorem hd_X11_reckonAll : yX11_reckonAll.cls ≠ "java/lang/invoke/MethodHandle" ∧ yX11_reckonAll.cls ≠ "java/lang/invoke/VarHandle" ∧ (parseMethodDescriptor yX11_reckonAll.desc).map (fun d => d.parameters.length) = some 2 := by decide +kernel
abbrev rm_X11_isSo : Room := { frames := 4, cells := 0, slots := 0, locals := 92 }
set_option maxHeartbeats 4000000 in
set_option maxRecDepth 100000 in
theorem j_X11_isSo_59 {p : Program} {l : Launch} {e : Env} {s : State} {m : MethodId} {args : Array Value} {below : List Frame} {meth : Method} {c : Code} {b : Nat} {D : va_G} {cy : Nat → ClassId} {G : Gm} {v0 : Nat} {v1 : Int32} {S : St} {Q : Int32 → St → Prop} (C : CX p s m args meth c b D cy cX11_isSo RX11 2 (some .boolean)) (hE : s.heap.size + 0 ≤ b + G.2.2) (t_v0 : ok G 10 v0) (h : f_X11_isSo_59 G v0 v1 Q S) : J p l e rm_X11_isSo s m args below meth c b D cy 2 (zI b D cy below args s G Q) 0 0 G S 59 [(0, .ref (b + v0)), (1, .int v1)] [] := by
  unfold f_X11_isSo_59 at h
  refine jB C [(.aload_n 0, 1, 0)] 60 [(0, .ref (b + v0)), (1, .int v1)] [.ref (b + v0)] (by decide +kernel) rfl rfl ?_
  obtain ⟨a1, e_a1, h⟩ := h
  refine jGetR C 63 (by decide +kernel : decode cX11_isSo 60 = .ok (.getfield 16, 3)) rfl t_v0 kX11 4 (by decide) rfl rfl (by decide) wd_1158 e_a1 rfl (fun t_a1 => ?_)
  refine jB C [(.iload_n 1, 1, 0)] 64 [(0, .ref (b + v0)), (1, .int v1)] [.int v1, .ref (b + a1)] (by decide +kernel) rfl rfl ?_
  obtain ⟨y2, h⟩ := h
  refine jIald C 65 (by decide +kernel : decode cX11_isSo 64 = .ok (.iaload, 1)) rfl t_a1 y2 ?_
  refine jB C [(.iconst 3, 1, 3)] 66 [(0, .ref (b + v0)), (1, .int v1)] [.int 3, .int (S.1 a1 v1.toNatClampNeg)] (by decide +kernel) rfl rfl ?_
  refine jIcmp_eq C 69 110 (by decide +kernel : decode cX11_isSo 66 = .ok (.if_icmp .eq 44, 3)) rfl rfl (fun c3 => ?_) (fun c3 => ?_)
  · have h := it1 h c3
    refine jB C [(.iconst 1, 1, 1)] 111 [(0, .ref (b + v0)), (1, .int v1)] [.int 1] (by decide +kernel) rfl rfl ?_
    exact jRetZ C (by decide +kernel : decode cX11_isSo 111 = .ok (.ireturn, 1)) (Nat.le_refl _) (Nat.le_refl _) (by decide) ⟨rfl, h⟩
  · have h := it2 h c3
    refine jB C [(.aload_n 0, 1, 0), (.aload_n 0, 1, 0)] 71 [(0, .ref (b + v0)), (1, .int v1)] [.ref (b + v0), .ref (b + v0)] (by decide +kernel) rfl rfl ?_
    obtain ⟨a4, e_a4, h⟩ := h
    refine jGetR C 74 (by decide +kernel : decode cX11_isSo 71 = .ok (.getfield 16, 3)) rfl t_v0 kX11 4 (by decide) rfl rfl (by decide) wd_1158 e_a4 rfl (fun t_a4 => ?_)
    refine jB C [(.iload_n 1, 1, 0), (.iconst 3, 1, 3), (.iadd, 1, 0)] 77 [(0, .ref (b + v0)), (1, .int v1)] [.int (v1 + 3), .ref (b + a4), .ref (b + v0)] (by decide +kernel) rfl rfl ?_
    obtain ⟨y5, h⟩ := h
    refine jIald C 78 (by decide +kernel : decode cX11_isSo 77 = .ok (.iaload, 1)) rfl t_a4 y5 ?_
    refine jB C [(.aload_n 0, 1, 0)] 79 [(0, .ref (b + v0)), (1, .int v1)] [.ref (b + v0), .int (S.1 a4 (v1 + 3).toNatClampNeg), .ref (b + v0)] (by decide +kernel) rfl rfl ?_
    obtain ⟨a6, e_a6, h⟩ := h
    refine jGetR C 82 (by decide +kernel : decode cX11_isSo 79 = .ok (.getfield 16, 3)) rfl t_v0 kX11 4 (by decide) rfl rfl (by decide) wd_1158 e_a6 rfl (fun t_a6 => ?_)
    refine jB C [(.iload_n 1, 1, 0), (.iconst 4, 1, 4), (.iadd, 1, 0)] 85 [(0, .ref (b + v0)), (1, .int v1)] [.int (v1 + 4), .ref (b + a6), .int (S.1 a4 (v1 + 3).toNatClampNeg), .ref (b + v0)] (by decide +kernel) rfl rfl ?_
    obtain ⟨y7, h⟩ := h
    refine jIald C 86 (by decide +kernel : decode cX11_isSo 85 = .ok (.iaload, 1)) rfl t_a6 y7 ?_
    refine jcV_V C 89 (rest := []) (ok_X11_reckonAll t_v0 h) (by decide +kernel : decode cX11_isSo 86 = .ok (.invokevirtual 439, 3)) rfl wd_1417 wd_1419 wp_111 wd_12 wd_1420 ⟨rfl, rfl⟩ hd_X11_reckonAll ⟨Nat.le_of_ble_eq_true rfl, Nat.le_of_ble_eq_true rfl⟩ t_v0 kX11 (by decide) rfl rfl rfl (Nat.le_of_ble_eq_true rfl) ⟨Nat.zero_le _, Nat.zero_le _⟩ (fun S8 h => ?_)
    refine jB C [(.aload_n 0, 1, 0), (.aload_n 0, 1, 0)] 91 [(0, .ref (b + v0)), (1, .int v1)] [.ref (b + v0), .ref (b + v0)] (by decide +kernel) rfl rfl ?_
    refine jGetJ C 94 (by decide +kernel : decode cX11_isSo 91 = .ok (.getfield 436, 3)) rfl t_v0 kX11 41 (by decide) rfl rfl (by decide) wd_1195 ?_
    refine jPutJ C 97 (by decide +kernel : decode cX11_isSo 94 = .ok (.putfield 442, 3)) rfl hE t_v0 kX11 42 (by decide) rfl rfl (by decide) rfl wd_1196 rfl rfl rfl ?_
    refine jTopS (fun S9 e_S9 => ?_)
    have h := h S9 e_S9
    refine jB C [(.aload_n 0, 1, 0)] 98 [(0, .ref (b + v0)), (1, .int v1)] [.ref (b + v0)] (by decide +kernel) rfl rfl ?_
    refine jGetI C 101 (by decide +kernel : decode cX11_isSo 98 = .ok (.getfield 419, 3)) rfl t_v0 kX11 40 (by decide) rfl rfl (by decide) wd_1194 ?_
    refine jIf_ne C 104 108 (by decide +kernel : decode cX11_isSo 101 = .ok (.ifCond .ne 7, 3)) rfl rfl (fun c10 => ?_) (fun c10 => ?_)
    · have h := it2 h c10
      refine jB C [(.iconst 0, 1, 0)] 109 [(0, .ref (b + v0)), (1, .int v1)] [.int 0] (by decide +kernel) rfl rfl ?_
      exact jRetZ C (by decide +kernel : decode cX11_isSo 109 = .ok (.ireturn, 1)) (Nat.le_refl _) (Nat.le_refl _) (by decide) ⟨rfl, h⟩
    · have h := it1 h c10
      refine jB C [(.iconst 1, 1, 1)] 105 [(0, .ref (b + v0)), (1, .int v1)] [.int 1] (by decide +kernel) rfl rfl ?_
      refine jGoto C 109 (by decide +kernel : decode cX11_isSo 105 = .ok (.goto 4, 3)) rfl ?_
      exact jRetZ C (by decide +kernel : decode cX11_isSo 109 = .ok (.ireturn, 1)) (Nat.le_refl _) (Nat.le_refl _) (by decide) ⟨rfl, h⟩
set_option maxHeartbeats 4000000 in
set_option maxRecDepth 100000 in
theorem j_X11_isSo {p : Program} {l : Launch} {e : Env} {s : State} {m : MethodId} {args : Array Value} {below : List Frame} {meth : Method} {c : Code} {b : Nat} {D : va_G} {cy : Nat → ClassId} {G : Gm} {v0 : Nat} {v1 : Int32} {S : St} {Q : Int32 → St → Prop} (C : CX p s m args meth c b D cy cX11_isSo RX11 2 (some .boolean)) (hE : s.heap.size + 0 ≤ b + G.2.2) (t_v0 : ok G 10 v0) (h : f_X11_isSo G v0 v1 Q S) : J p l e rm_X11_isSo s m args below meth c b D cy 2 (zI b D cy below args s G Q) 0 0 G S 0 [(0, .ref (b + v0)), (1, .int v1)] [] := by
  unfold f_X11_isSo at h
  refine jB C [(.aload_n 0, 1, 0)] 1 [(0, .ref (b + v0)), (1, .int v1)] [.ref (b + v0)] (by decide +kernel) rfl rfl ?_
  obtain ⟨a1, e_a1, h⟩ := h
  refine jGetR C 4 (by decide +kernel : decode cX11_isSo 1 = .ok (.getfield 16, 3)) rfl t_v0 kX11 4 (by decide) rfl rfl (by decide) wd_1158 e_a1 rfl (fun t_a1 => ?_)
  refine jB C [(.iload_n 1, 1, 0), (.iconst 5, 1, 5), (.iadd, 1, 0)] 7 [(0, .ref (b + v0)), (1, .int v1)] [.int (v1 + 5), .ref (b + a1)] (by decide +kernel) rfl rfl ?_
  obtain ⟨y2, h⟩ := h
  refine jIald C 8 (by decide +kernel : decode cX11_isSo 7 = .ok (.iaload, 1)) rfl t_a1 y2 ?_
  refine jB C [(.aload_n 0, 1, 0)] 9 [(0, .ref (b + v0)), (1, .int v1)] [.ref (b + v0), .int (S.1 a1 (v1 + 5).toNatClampNeg)] (by decide +kernel) rfl rfl ?_
  obtain ⟨a3, e_a3, h⟩ := h
  refine jGetR C 12 (by decide +kernel : decode cX11_isSo 9 = .ok (.getfield 16, 3)) rfl t_v0 kX11 4 (by decide) rfl rfl (by decide) wd_1158 e_a3 rfl (fun t_a3 => ?_)
  refine jB C [(.iload_n 1, 1, 0), (.bipush 6, 2, 6), (.iadd, 1, 0)] 16 [(0, .ref (b + v0)), (1, .int v1)] [.int (v1 + 6), .ref (b + a3), .int (S.1 a1 (v1 + 5).toNatClampNeg)] (by decide +kernel) rfl rfl ?_
  obtain ⟨y4, h⟩ := h
  refine jIald C 17 (by decide +kernel : decode cX11_isSo 16 = .ok (.iaload, 1)) rfl t_a3 y4 ?_
  refine jIcmp_ge C 20 59 (by decide +kernel : decode cX11_isSo 17 = .ok (.if_icmp .ge 42, 3)) rfl rfl (fun c5 => ?_) (fun c5 => ?_)
  · have h := it1 h c5
    refine jSub [0, 1] rfl ?_
    exact j_X11_isSo_59 C hE t_v0 h
  · have h := it2 h c5
    refine jB C [(.aload_n 0, 1, 0), (.aload_n 0, 1, 0)] 22 [(0, .ref (b + v0)), (1, .int v1)] [.ref (b + v0), .ref (b + v0)] (by decide +kernel) rfl rfl ?_
    obtain ⟨a6, e_a6, h⟩ := h
    refine jGetR C 25 (by decide +kernel : decode cX11_isSo 22 = .ok (.getfield 16, 3)) rfl t_v0 kX11 4 (by decide) rfl rfl (by decide) wd_1158 e_a6 rfl (fun t_a6 => ?_)
    refine jB C [(.iload_n 1, 1, 0), (.iconst 5, 1, 5), (.iadd, 1, 0)] 28 [(0, .ref (b + v0)), (1, .int v1)] [.int (v1 + 5), .ref (b + a6), .ref (b + v0)] (by decide +kernel) rfl rfl ?_
    obtain ⟨y7, h⟩ := h
    refine jIald C 29 (by decide +kernel : decode cX11_isSo 28 = .ok (.iaload, 1)) rfl t_a6 y7 ?_
    refine jB C [(.aload_n 0, 1, 0)] 30 [(0, .ref (b + v0)), (1, .int v1)] [.ref (b + v0), .int (S.1 a6 (v1 + 5).toNatClampNeg), .ref (b + v0)] (by decide +kernel) rfl rfl ?_
    obtain ⟨a8, e_a8, h⟩ := h
    refine jGetR C 33 (by decide +kernel : decode cX11_isSo 30 = .ok (.getfield 16, 3)) rfl t_v0 kX11 4 (by decide) rfl rfl (by decide) wd_1158 e_a8 rfl (fun t_a8 => ?_)
    refine jB C [(.iload_n 1, 1, 0), (.bipush 6, 2, 6), (.iadd, 1, 0)] 37 [(0, .ref (b + v0)), (1, .int v1)] [.int (v1 + 6), .ref (b + a8), .int (S.1 a6 (v1 + 5).toNatClampNeg), .ref (b + v0)] (by decide +kernel) rfl rfl ?_
    obtain ⟨y9, h⟩ := h
    refine jIald C 38 (by decide +kernel : decode cX11_isSo 37 = .ok (.iaload, 1)) rfl t_a8 y9 ?_
    refine jcV_V C 41 (rest := []) (ok_X11_reckonAll t_v0 h) (by decide +kernel : decode cX11_isSo 38 = .ok (.invokevirtual 439, 3)) rfl wd_1417 wd_1419 wp_111 wd_12 wd_1420 ⟨rfl, rfl⟩ hd_X11_reckonAll ⟨Nat.le_of_ble_eq_true rfl, Nat.le_of_ble_eq_true rfl⟩ t_v0 kX11 (by decide) rfl rfl rfl (Nat.le_of_ble_eq_true rfl) ⟨Nat.zero_le _, Nat.zero_le _⟩ (fun S10 h => ?_)
    refine jB C [(.aload_n 0, 1, 0)] 42 [(0, .ref (b + v0)), (1, .int v1)] [.ref (b + v0)] (by decide +kernel) rfl rfl ?_
    refine jGetI C 45 (by decide +kernel : decode cX11_isSo 42 = .ok (.getfield 419, 3)) rfl t_v0 kX11 40 (by decide) rfl rfl (by decide) wd_1194 ?_
    refine jIf_ne C 48 57 (by decide +kernel : decode cX11_isSo 45 = .ok (.ifCond .ne 12, 3)) rfl rfl (fun c11 => ?_) (fun c11 => ?_)
    · have h := it2 h c11
      refine jB C [(.iconst 0, 1, 0)] 58 [(0, .ref (b + v0)), (1, .int v1)] [.int 0] (by decide +kernel) rfl rfl ?_
      exact jRetZ C (by decide +kernel : decode cX11_isSo 58 = .ok (.ireturn, 1)) (Nat.le_refl _) (Nat.le_refl _) (by decide) ⟨rfl, h⟩
    · have h := it1 h c11
      refine jB C [(.aload_n 0, 1, 0)] 49 [(0, .ref (b + v0)), (1, .int v1)] [.ref (b + v0)] (by decide +kernel) rfl rfl ?_
      refine jGetJ C 52 (by decide +kernel : decode cX11_isSo 49 = .ok (.getfield 436, 3)) rfl t_v0 kX11 41 (by decide) rfl rfl (by decide) wd_1195 ?_
      refine jB C [(.lconst 0, 1, 0), (.lcmp, 1, 0)] 54 [(0, .ref (b + v0)), (1, .int v1)] [.int (lg_cmp (S10.2.1 v0 41) 0)] (by decide +kernel) rfl rfl ?_
      refine jIf_ne C 57 59 (by decide +kernel : decode cX11_isSo 54 = .ok (.ifCond .ne 5, 3)) rfl rfl (fun c12 => ?_) (fun c12 => ?_)
      · have h := it2 h c12
        refine jSub [0, 1] rfl ?_
        exact j_X11_isSo_59 C hE t_v0 h
      · have h := it1 h c12
        refine jB C [(.iconst 0, 1, 0)] 58 [(0, .ref (b + v0)), (1, .int v1)] [.int 0] (by decide +kernel) rfl rfl ?_
        exact jRetZ C (by decide +kernel : decode cX11_isSo 58 = .ok (.ireturn, 1)) (Nat.le_refl _) (Nat.le_refl _) (by decide) ⟨rfl, h⟩
theorem ok_X11_isSo {G : Gm} {v0 : Nat} {v1 : Int32} {S : St} {Q : Int32 → St → Prop}  (t_v0 : ok G 10 v0) (h : f_X11_isSo G v0 v1 Q S) : MT yX11_isSo cX11_isSo 2 (some .boolean) rm_X11_isSo 0 0 (fun b => [.ref (b + v0), .int v1]) G S (QI (fun r G1 S1 => G1 = G ∧ Q r S1)) := MT.ofJ (by decide +kernel) (fun b => [(0, .ref (b + v0)), (1, .int v1)]) (fun b => rfl) (fun b => Nat.le_of_ble_eq_true rfl) (fun l b D cy p e s m below meth c C hE hn => j_X11_isSo C hE t_v0 h)
theorem hd_X11_isSo : yX11_isSo.cls ≠ "java/lang/invoke/MethodHandle" ∧ yX11_isSo.cls ≠ "java/lang/invoke/VarHandle" ∧ (parseMethodDescriptor yX11_isSo.desc).map (fun d => d.parameters.length) = some 1 := by decide +kernel
