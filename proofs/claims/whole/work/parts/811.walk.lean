abbrev rm_X11_allSins : Room := { frames := 1, cells := 0, slots := 0, locals := 23 }
set_option maxHeartbeats 4000000 in
set_option maxRecDepth 100000 in
theorem j_X11_allSins_4_n {p : Program} {l : Launch} {e : Env} {s : State} {m : MethodId} {args : Array Value} {below : List Frame} {meth : Method} {c : Code} {b : Nat} {D : va_G} {cy : Nat → ClassId} {G : Gm} {v0 : Nat} {Q : Int32 → St → Prop} (C : CX p s m args meth c b D cy cX11_allSins RX11 3 (some .int)) (hE : s.heap.size + 0 ≤ b + G.2.2) (t_v0 : ok G 10 v0) : ∀ k (v1 : Int32) (v2 : Int32) S, f_X11_allSins_4_n G v0 Q k v1 v2 S → J p l e rm_X11_allSins s m args below meth c b D cy 3 (zI b D cy below args s G Q) 0 0 G S 4 [(0, .ref (b + v0)), (1, .int v1), (2, .int v2)] [] := by
  intro k
  induction k with
  | zero => intro v1 v2 S h; exact h.elim
  | succ k ih =>
    intro v1 v2 S h
    unfold f_X11_allSins_4_n at h
    refine jB C [(.iload_n 2, 1, 0), (.aload_n 0, 1, 0)] 6 [(0, .ref (b + v0)), (1, .int v1), (2, .int v2)] [.ref (b + v0), .int v2] (by decide +kernel) rfl rfl ?_
    obtain ⟨a1, e_a1, h⟩ := h
    refine jGetR C 9 (by decide +kernel : decode cX11_allSins 6 = .ok (.getfield 16, 3)) rfl t_v0 kX11 4 (by decide) rfl rfl (by decide) wd_1158 e_a1 rfl (fun t_a1 => ?_)
    refine jB C [(.iconst 0, 1, 0)] 10 [(0, .ref (b + v0)), (1, .int v1), (2, .int v2)] [.int 0, .ref (b + a1), .int v2] (by decide +kernel) rfl rfl ?_
    obtain ⟨y2, h⟩ := h
    refine jIald C 11 (by decide +kernel : decode cX11_allSins 10 = .ok (.iaload, 1)) rfl t_a1 y2 ?_
    refine jIcmp_ge C 14 28 (by decide +kernel : decode cX11_allSins 11 = .ok (.if_icmp .ge 17, 3)) rfl rfl (fun c3 => ?_) (fun c3 => ?_)
    · have h := it1 h c3
      refine jB C [(.iload_n 1, 1, 0)] 29 [(0, .ref (b + v0)), (1, .int v1), (2, .int v2)] [.int v1] (by decide +kernel) rfl rfl ?_
      exact jRetI C (by decide +kernel : decode cX11_allSins 29 = .ok (.ireturn, 1)) (Nat.le_refl _) (Nat.le_refl _) ⟨rfl, h⟩
    · have h := it2 h c3
      refine jB C [(.iload_n 1, 1, 0), (.aload_n 0, 1, 0), (.iload_n 2, 1, 0)] 17 [(0, .ref (b + v0)), (1, .int v1), (2, .int v2)] [.int v2, .ref (b + v0), .int v1] (by decide +kernel) rfl rfl ?_
      refine jcV_I C 20 (rest := [.int v1]) (ok_X11_sinsOf t_v0 h) (by decide +kernel : decode cX11_allSins 17 = .ok (.invokevirtual 425, 3)) rfl wd_1406 wd_1408 wp_109 wd_12 wd_1409 ⟨rfl, rfl⟩ hd_X11_sinsOf ⟨Nat.le_of_ble_eq_true rfl, Nat.le_of_ble_eq_true rfl⟩ t_v0 kX11 (by decide) rfl rfl rfl (Nat.le_of_ble_eq_true rfl) ⟨Nat.zero_le _, Nat.zero_le _⟩ (fun r5 S4 h => ?_)
      refine jB C [(.iadd, 1, 0)] 21 [(0, .ref (b + v0)), (1, .int v1), (2, .int v2)] [.int (v1 + r5)] (by decide +kernel) rfl rfl ?_
      refine jTopI (fun x6 e_x6 => ?_)
      have h := h x6 e_x6
      refine jB C [(.istore_n 1, 1, 0), (.iinc 2 1, 3, 1)] 25 [(2, .int (v2 + 1)), (1, .int x6), (0, .ref (b + v0))] [] (by decide +kernel) rfl rfl ?_
      refine jGoto C 4 (by decide +kernel : decode cX11_allSins 25 = .ok (.goto (-21), 3)) rfl ?_
      refine jSub [2, 1, 0] rfl ?_
      exact ih x6 (v2 + 1) S4 h
theorem j_X11_allSins_4 {p : Program} {l : Launch} {e : Env} {s : State} {m : MethodId} {args : Array Value} {below : List Frame} {meth : Method} {c : Code} {b : Nat} {D : va_G} {cy : Nat → ClassId} {G : Gm} {v0 : Nat} {v1 : Int32} {v2 : Int32} {S : St} {Q : Int32 → St → Prop} (C : CX p s m args meth c b D cy cX11_allSins RX11 3 (some .int)) (hE : s.heap.size + 0 ≤ b + G.2.2) (t_v0 : ok G 10 v0) (h : f_X11_allSins_4 G v0 Q v1 v2 S) : J p l e rm_X11_allSins s m args below meth c b D cy 3 (zI b D cy below args s G Q) 0 0 G S 4 [(0, .ref (b + v0)), (1, .int v1), (2, .int v2)] [] := by
  obtain ⟨k, h⟩ := h
  exact j_X11_allSins_4_n C hE t_v0 k v1 v2 S h
set_option maxHeartbeats 4000000 in
set_option maxRecDepth 100000 in
theorem j_X11_allSins {p : Program} {l : Launch} {e : Env} {s : State} {m : MethodId} {args : Array Value} {below : List Frame} {meth : Method} {c : Code} {b : Nat} {D : va_G} {cy : Nat → ClassId} {G : Gm} {v0 : Nat} {S : St} {Q : Int32 → St → Prop} (C : CX p s m args meth c b D cy cX11_allSins RX11 3 (some .int)) (hE : s.heap.size + 0 ≤ b + G.2.2) (t_v0 : ok G 10 v0) (h : f_X11_allSins G v0 Q S) : J p l e rm_X11_allSins s m args below meth c b D cy 3 (zI b D cy below args s G Q) 0 0 G S 0 [(0, .ref (b + v0))] [] := by
  unfold f_X11_allSins at h
  refine jB C [(.iconst 0, 1, 0), (.istore_n 1, 1, 0), (.iconst 0, 1, 0), (.istore_n 2, 1, 0)] 4 [(2, .int 0), (1, .int 0), (0, .ref (b + v0))] [] (by decide +kernel) rfl rfl ?_
  refine jSub [2, 1, 0] rfl ?_
  exact j_X11_allSins_4 C hE t_v0 h
theorem ok_X11_allSins {G : Gm} {v0 : Nat} {S : St} {Q : Int32 → St → Prop}  (t_v0 : ok G 10 v0) (h : f_X11_allSins G v0 Q S) : MT yX11_allSins cX11_allSins 3 (some .int) rm_X11_allSins 0 0 (fun b => [.ref (b + v0)]) G S (QI (fun r G1 S1 => G1 = G ∧ Q r S1)) := MT.ofJ (by decide +kernel) (fun b => [(0, .ref (b + v0))]) (fun b => rfl) (fun b => Nat.le_of_ble_eq_true rfl) (fun l b D cy p e s m below meth c C hE hn => j_X11_allSins C hE t_v0 h)
theorem hd_X11_allSins : yX11_allSins.cls ≠ "java/lang/invoke/MethodHandle" ∧ yX11_allSins.cls ≠ "java/lang/invoke/VarHandle" ∧ (parseMethodDescriptor yX11_allSins.desc).map (fun d => d.parameters.length) = some 0 := by decide +kernel
abbrev rm_X11_mostAlike : Room := { frames := 3, cells := 0, slots := 0, locals := 68 }
set_option maxHeartbeats 4000000 in
set_option maxRecDepth 100000 in
theorem j_X11_mostAlike_26_n {p : Program} {l : Launch} {e : Env} {s : State} {m : MethodId} {args : Array Value} {below : List Frame} {meth : Method} {c : Code} {b : Nat} {D : va_G} {cy : Nat → ClassId} {G : Gm} {v0 : Nat} {v1 : Int32} {Q : Int32 → St → Prop} (C : CX p s m args meth c b D cy cX11_mostAlike RX11 5 (some .int)) (hE : s.heap.size + 0 ≤ b + G.2.2) (t_v0 : ok G 10 v0) : ∀ k (v2 : Int32) (v3 : Int32) S, f_X11_mostAlike_26_n G v0 v1 Q k v2 v3 S → J p l e rm_X11_mostAlike s m args below meth c b D cy 5 (zI b D cy below args s G Q) 0 0 G S 26 [(0, .ref (b + v0)), (1, .int v1), (2, .int v2), (3, .int v3)] [] := by
  intro k
  induction k with
  | zero => intro v2 v3 S h; exact h.elim
  | succ k ih =>
    intro v2 v3 S h
    unfold f_X11_mostAlike_26_n at h
    refine jB C [(.iload_n 3, 1, 0), (.sipush 256, 3, 256)] 30 [(0, .ref (b + v0)), (1, .int v1), (2, .int v2), (3, .int v3)] [.int 256, .int v3] (by decide +kernel) rfl rfl ?_
    refine jIcmp_ge C 33 89 (by decide +kernel : decode cX11_mostAlike 30 = .ok (.if_icmp .ge 59, 3)) rfl rfl (fun c1 => ?_) (fun c1 => ?_)
    · have h := it1 h c1
      refine jB C [(.iload_n 2, 1, 0)] 90 [(0, .ref (b + v0)), (1, .int v1), (2, .int v2), (3, .int v3)] [.int v2] (by decide +kernel) rfl rfl ?_
      exact jRetI C (by decide +kernel : decode cX11_mostAlike 90 = .ok (.ireturn, 1)) (Nat.le_refl _) (Nat.le_refl _) ⟨rfl, h⟩
    · have h := it2 h c1
      refine jB C [(.aload_n 0, 1, 0), (.iload_n 3, 1, 0)] 35 [(0, .ref (b + v0)), (1, .int v1), (2, .int v2), (3, .int v3)] [.int v3, .ref (b + v0)] (by decide +kernel) rfl rfl ?_
      refine jcV_I C 38 (rest := []) (ok_X11_allSee t_v0 h) (by decide +kernel : decode cX11_mostAlike 35 = .ok (.invokevirtual 502, 3)) rfl wd_1728 wd_1730 wp_156 wd_12 wd_1731 ⟨rfl, rfl⟩ hd_X11_allSee ⟨Nat.le_of_ble_eq_true rfl, Nat.le_of_ble_eq_true rfl⟩ t_v0 kX11 (by decide) rfl rfl rfl (Nat.le_of_ble_eq_true rfl) ⟨Nat.zero_le _, Nat.zero_le _⟩ (fun r3 S2 h => ?_)
      refine jIf_eq C 41 83 (by decide +kernel : decode cX11_mostAlike 38 = .ok (.ifCond .eq 45, 3)) rfl rfl (fun c4 => ?_) (fun c4 => ?_)
      · have h := it1 h c4
        refine jB C [(.iinc 3 1, 3, 1)] 86 [(3, .int (v3 + 1)), (0, .ref (b + v0)), (1, .int v1), (2, .int v2)] [] (by decide +kernel) rfl rfl ?_
        refine jGoto C 26 (by decide +kernel : decode cX11_mostAlike 86 = .ok (.goto (-60), 3)) rfl ?_
        refine jSub [1, 2, 3, 0] rfl ?_
        exact ih v2 (v3 + 1) S2 h
      · have h := it2 h c4
        refine jB C [(.aload_n 0, 1, 0), (.iload_n 1, 1, 0), (.iload_n 3, 1, 0)] 44 [(0, .ref (b + v0)), (1, .int v1), (2, .int v2), (3, .int v3)] [.int v3, .int v1, .ref (b + v0)] (by decide +kernel) rfl rfl ?_
        refine jcV_I C 47 (rest := []) (ok_X11_through t_v0 h) (by decide +kernel : decode cX11_mostAlike 44 = .ok (.invokevirtual 199, 3)) rfl wd_1390 wd_1392 wp_106 wd_12 wd_1393 ⟨rfl, rfl⟩ hd_X11_through ⟨Nat.le_of_ble_eq_true rfl, Nat.le_of_ble_eq_true rfl⟩ t_v0 kX11 (by decide) rfl rfl rfl (Nat.le_of_ble_eq_true rfl) ⟨Nat.zero_le _, Nat.zero_le _⟩ (fun r6 S5 h => ?_)
        refine jB C [(.istore 4, 2, 0), (.aload_n 0, 1, 0)] 50 [(4, .int r6), (0, .ref (b + v0)), (1, .int v1), (2, .int v2), (3, .int v3)] [.ref (b + v0)] (by decide +kernel) rfl rfl ?_
        obtain ⟨a7, e_a7, h⟩ := h
        refine jGetR C 53 (by decide +kernel : decode cX11_mostAlike 50 = .ok (.getfield 123, 3)) rfl t_v0 kX11 46 (by decide) rfl rfl (by decide) wd_1200 e_a7 rfl (fun t_a7 => ?_)
        refine jB C [(.iload 4, 2, 0), (.dup2, 1, 0)] 56 [(4, .int r6), (0, .ref (b + v0)), (1, .int v1), (2, .int v2), (3, .int v3)] [.int r6, .ref (b + a7), .int r6, .ref (b + a7)] (by decide +kernel) rfl rfl ?_
        obtain ⟨y8, h⟩ := h
        refine jIald C 57 (by decide +kernel : decode cX11_mostAlike 56 = .ok (.iaload, 1)) rfl t_a7 y8 ?_
        refine jB C [(.iconst 1, 1, 1), (.iadd, 1, 0)] 59 [(4, .int r6), (0, .ref (b + v0)), (1, .int v1), (2, .int v2), (3, .int v3)] [.int ((S5.1 a7 r6.toNatClampNeg) + 1), .int r6, .ref (b + a7)] (by decide +kernel) rfl rfl ?_
        obtain ⟨y9, h⟩ := h
        refine jIast C 60 (by decide +kernel : decode cX11_mostAlike 59 = .ok (.iastore, 1)) rfl hE t_a7 y9 ?_
        refine jTopS (fun S10 e_S10 => ?_)
        have h := h S10 e_S10
        refine jB C [(.aload_n 0, 1, 0)] 61 [(4, .int r6), (0, .ref (b + v0)), (1, .int v1), (2, .int v2), (3, .int v3)] [.ref (b + v0)] (by decide +kernel) rfl rfl ?_
        obtain ⟨a11, e_a11, h⟩ := h
        refine jGetR C 64 (by decide +kernel : decode cX11_mostAlike 61 = .ok (.getfield 123, 3)) rfl t_v0 kX11 46 (by decide) rfl rfl (by decide) wd_1200 e_a11 rfl (fun t_a11 => ?_)
        refine jB C [(.iload 4, 2, 0)] 66 [(4, .int r6), (0, .ref (b + v0)), (1, .int v1), (2, .int v2), (3, .int v3)] [.int r6, .ref (b + a11)] (by decide +kernel) rfl rfl ?_
        obtain ⟨y12, h⟩ := h
        refine jIald C 67 (by decide +kernel : decode cX11_mostAlike 66 = .ok (.iaload, 1)) rfl t_a11 y12 ?_
        refine jB C [(.iload_n 2, 1, 0)] 68 [(4, .int r6), (0, .ref (b + v0)), (1, .int v1), (2, .int v2), (3, .int v3)] [.int v2, .int (S10.1 a11 r6.toNatClampNeg)] (by decide +kernel) rfl rfl ?_
        refine jIcmp_le C 71 81 (by decide +kernel : decode cX11_mostAlike 68 = .ok (.if_icmp .le 13, 3)) rfl rfl (fun c13 => ?_) (fun c13 => ?_)
        · have h := it1 h c13
          refine jB C [(.iload_n 2, 1, 0), (.istore_n 2, 1, 0), (.iinc 3 1, 3, 1)] 86 [(3, .int (v3 + 1)), (2, .int v2), (4, .int r6), (0, .ref (b + v0)), (1, .int v1)] [] (by decide +kernel) rfl rfl ?_
          refine jGoto C 26 (by decide +kernel : decode cX11_mostAlike 86 = .ok (.goto (-60), 3)) rfl ?_
          refine jSub [3, 4, 1, 0] rfl ?_
          exact ih v2 (v3 + 1) S10 h
        · have h := it2 h c13
          refine jB C [(.aload_n 0, 1, 0)] 72 [(4, .int r6), (0, .ref (b + v0)), (1, .int v1), (2, .int v2), (3, .int v3)] [.ref (b + v0)] (by decide +kernel) rfl rfl ?_
          obtain ⟨a14, e_a14, h⟩ := h
          refine jGetR C 75 (by decide +kernel : decode cX11_mostAlike 72 = .ok (.getfield 123, 3)) rfl t_v0 kX11 46 (by decide) rfl rfl (by decide) wd_1200 e_a14 rfl (fun t_a14 => ?_)
          refine jB C [(.iload 4, 2, 0)] 77 [(4, .int r6), (0, .ref (b + v0)), (1, .int v1), (2, .int v2), (3, .int v3)] [.int r6, .ref (b + a14)] (by decide +kernel) rfl rfl ?_
          obtain ⟨y15, h⟩ := h
          refine jIald C 78 (by decide +kernel : decode cX11_mostAlike 77 = .ok (.iaload, 1)) rfl t_a14 y15 ?_
          refine jGoto C 82 (by decide +kernel : decode cX11_mostAlike 78 = .ok (.goto 4, 3)) rfl ?_
          refine jTopI (fun x16 e_x16 => ?_)
          have h := h x16 e_x16
          refine jB C [(.istore_n 2, 1, 0), (.iinc 3 1, 3, 1)] 86 [(3, .int (v3 + 1)), (2, .int x16), (4, .int r6), (0, .ref (b + v0)), (1, .int v1)] [] (by decide +kernel) rfl rfl ?_
          refine jGoto C 26 (by decide +kernel : decode cX11_mostAlike 86 = .ok (.goto (-60), 3)) rfl ?_
          refine jSub [3, 4, 1, 0] rfl ?_
          exact ih x16 (v3 + 1) S10 h
theorem j_X11_mostAlike_26 {p : Program} {l : Launch} {e : Env} {s : State} {m : MethodId} {args : Array Value} {below : List Frame} {meth : Method} {c : Code} {b : Nat} {D : va_G} {cy : Nat → ClassId} {G : Gm} {v0 : Nat} {v1 : Int32} {v2 : Int32} {v3 : Int32} {S : St} {Q : Int32 → St → Prop} (C : CX p s m args meth c b D cy cX11_mostAlike RX11 5 (some .int)) (hE : s.heap.size + 0 ≤ b + G.2.2) (t_v0 : ok G 10 v0) (h : f_X11_mostAlike_26 G v0 v1 Q v2 v3 S) : J p l e rm_X11_mostAlike s m args below meth c b D cy 5 (zI b D cy below args s G Q) 0 0 G S 26 [(0, .ref (b + v0)), (1, .int v1), (2, .int v2), (3, .int v3)] [] := by
  obtain ⟨k, h⟩ := h
  exact j_X11_mostAlike_26_n C hE t_v0 k v2 v3 S h
set_option maxHeartbeats 4000000 in
set_option maxRecDepth 100000 in
theorem j_X11_mostAlike_2_n {p : Program} {l : Launch} {e : Env} {s : State} {m : MethodId} {args : Array Value} {below : List Frame} {meth : Method} {c : Code} {b : Nat} {D : va_G} {cy : Nat → ClassId} {G : Gm} {v0 : Nat} {v1 : Int32} {Q : Int32 → St → Prop} (C : CX p s m args meth c b D cy cX11_mostAlike RX11 5 (some .int)) (hE : s.heap.size + 0 ≤ b + G.2.2) (t_v0 : ok G 10 v0) : ∀ k (v2 : Int32) S, f_X11_mostAlike_2_n G v0 v1 Q k v2 S → J p l e rm_X11_mostAlike s m args below meth c b D cy 5 (zI b D cy below args s G Q) 0 0 G S 2 [(0, .ref (b + v0)), (1, .int v1), (2, .int v2)] [] := by
  intro k
  induction k with
  | zero => intro v2 S h; exact h.elim
  | succ k ih =>
    intro v2 S h
    unfold f_X11_mostAlike_2_n at h
    refine jB C [(.iload_n 2, 1, 0), (.sipush 256, 3, 256)] 6 [(0, .ref (b + v0)), (1, .int v1), (2, .int v2)] [.int 256, .int v2] (by decide +kernel) rfl rfl ?_
    refine jIcmp_ge C 9 22 (by decide +kernel : decode cX11_mostAlike 6 = .ok (.if_icmp .ge 16, 3)) rfl rfl (fun c1 => ?_) (fun c1 => ?_)
    · have h := it1 h c1
      refine jB C [(.iconst 0, 1, 0), (.istore_n 2, 1, 0), (.iconst 0, 1, 0), (.istore_n 3, 1, 0)] 26 [(3, .int 0), (2, .int 0), (0, .ref (b + v0)), (1, .int v1)] [] (by decide +kernel) rfl rfl ?_
      refine jSub [2, 3, 1, 0] rfl ?_
      exact j_X11_mostAlike_26 C hE t_v0 h
    · have h := it2 h c1
      refine jB C [(.aload_n 0, 1, 0)] 10 [(0, .ref (b + v0)), (1, .int v1), (2, .int v2)] [.ref (b + v0)] (by decide +kernel) rfl rfl ?_
      obtain ⟨a2, e_a2, h⟩ := h
      refine jGetR C 13 (by decide +kernel : decode cX11_mostAlike 10 = .ok (.getfield 123, 3)) rfl t_v0 kX11 46 (by decide) rfl rfl (by decide) wd_1200 e_a2 rfl (fun t_a2 => ?_)
      refine jB C [(.iload_n 2, 1, 0), (.iconst 0, 1, 0)] 15 [(0, .ref (b + v0)), (1, .int v1), (2, .int v2)] [.int 0, .int v2, .ref (b + a2)] (by decide +kernel) rfl rfl ?_
      obtain ⟨y3, h⟩ := h
      refine jIast C 16 (by decide +kernel : decode cX11_mostAlike 15 = .ok (.iastore, 1)) rfl hE t_a2 y3 ?_
      refine jTopS (fun S4 e_S4 => ?_)
      have h := h S4 e_S4
      refine jB C [(.iinc 2 1, 3, 1)] 19 [(2, .int (v2 + 1)), (0, .ref (b + v0)), (1, .int v1)] [] (by decide +kernel) rfl rfl ?_
      refine jGoto C 2 (by decide +kernel : decode cX11_mostAlike 19 = .ok (.goto (-17), 3)) rfl ?_
      refine jSub [1, 2, 0] rfl ?_
      exact ih (v2 + 1) S4 h
theorem j_X11_mostAlike_2 {p : Program} {l : Launch} {e : Env} {s : State} {m : MethodId} {args : Array Value} {below : List Frame} {meth : Method} {c : Code} {b : Nat} {D : va_G} {cy : Nat → ClassId} {G : Gm} {v0 : Nat} {v1 : Int32} {v2 : Int32} {S : St} {Q : Int32 → St → Prop} (C : CX p s m args meth c b D cy cX11_mostAlike RX11 5 (some .int)) (hE : s.heap.size + 0 ≤ b + G.2.2) (t_v0 : ok G 10 v0) (h : f_X11_mostAlike_2 G v0 v1 Q v2 S) : J p l e rm_X11_mostAlike s m args below meth c b D cy 5 (zI b D cy below args s G Q) 0 0 G S 2 [(0, .ref (b + v0)), (1, .int v1), (2, .int v2)] [] := by
  obtain ⟨k, h⟩ := h
  exact j_X11_mostAlike_2_n C hE t_v0 k v2 S h
set_option maxHeartbeats 4000000 in
set_option maxRecDepth 100000 in
theorem j_X11_mostAlike {p : Program} {l : Launch} {e : Env} {s : State} {m : MethodId} {args : Array Value} {below : List Frame} {meth : Method} {c : Code} {b : Nat} {D : va_G} {cy : Nat → ClassId} {G : Gm} {v0 : Nat} {v1 : Int32} {S : St} {Q : Int32 → St → Prop} (C : CX p s m args meth c b D cy cX11_mostAlike RX11 5 (some .int)) (hE : s.heap.size + 0 ≤ b + G.2.2) (t_v0 : ok G 10 v0) (h : f_X11_mostAlike G v0 v1 Q S) : J p l e rm_X11_mostAlike s m args below meth c b D cy 5 (zI b D cy below args s G Q) 0 0 G S 0 [(0, .ref (b + v0)), (1, .int v1)] [] := by
  unfold f_X11_mostAlike at h
  refine jB C [(.iconst 0, 1, 0), (.istore_n 2, 1, 0)] 2 [(2, .int 0), (0, .ref (b + v0)), (1, .int v1)] [] (by decide +kernel) rfl rfl ?_
  refine jSub [1, 2, 0] rfl ?_
  exact j_X11_mostAlike_2 C hE t_v0 h
theorem ok_X11_mostAlike {G : Gm} {v0 : Nat} {v1 : Int32} {S : St} {Q : Int32 → St → Prop}  (t_v0 : ok G 10 v0) (h : f_X11_mostAlike G v0 v1 Q S) : MT yX11_mostAlike cX11_mostAlike 5 (some .int) rm_X11_mostAlike 0 0 (fun b => [.ref (b + v0), .int v1]) G S (QI (fun r G1 S1 => G1 = G ∧ Q r S1)) := MT.ofJ (by decide +kernel) (fun b => [(0, .ref (b + v0)), (1, .int v1)]) (fun b => rfl) (fun b => Nat.le_of_ble_eq_true rfl) (fun l b D cy p e s m below meth c C hE hn => j_X11_mostAlike C hE t_v0 h)
theorem hd_X11_mostAlike : yX11_mostAlike.cls ≠ "java/lang/invoke/MethodHandle" ∧ yX11_mostAlike.cls ≠ "java/lang/invoke/VarHandle" ∧ (parseMethodDescriptor yX11_mostAlike.desc).map (fun d => d.parameters.length) = some 1 := by decide +kernel
abbrev rm_X11_ask : Room := { frames := 4, cells := 0, slots := 0, locals := 92 }
set_option maxHeartbeats 4000000 in
set_option maxRecDepth 100000 in
theorem j_X11_ask_62 {p : Program} {l : Launch} {e : Env} {s : State} {m : MethodId} {args : Array Value} {below : List Frame} {meth : Method} {c : Code} {b : Nat} {D : va_G} {cy : Nat → ClassId} {G : Gm} {k26 : Int32 → Int32 → Int32 → St → Prop} {v0 : Nat} {v1 : Int32} {v2 : Int32} {v4 : Int32} {v5 : Int32} {u0 : Int32} {S : St} {Q : Int32 → St → Prop} (C : CX p s m args meth c b D cy cX11_ask RX11 6 (some .int)) (hE : s.heap.size + 0 ≤ b + G.2.2) (t_v0 : ok G 10 v0) (hk26 : ∀ v2' v3' v4' S, k26 v2' v3' v4' S → J p l e rm_X11_ask s m args below meth c b D cy 6 (zI b D cy below args s G Q) 0 0 G S 26 [(0, .ref (b + v0)), (1, .int v1), (2, .int (v2')), (3, .int (v3')), (4, .int (v4'))] []) (h : f_X11_ask_62 G k26 v0 v1 v2 v4 v5 u0 Q S) : J p l e rm_X11_ask s m args below meth c b D cy 6 (zI b D cy below args s G Q) 0 0 G S 62 [(0, .ref (b + v0)), (1, .int v1), (2, .int v2), (4, .int v4), (5, .int v5)] [.int u0] := by
  unfold f_X11_ask_62 at h
  refine jB C [(.istore_n 3, 1, 0), (.iload 5, 2, 0)] 65 [(3, .int u0), (0, .ref (b + v0)), (1, .int v1), (2, .int v2), (4, .int v4), (5, .int v5)] [.int v5] (by decide +kernel) rfl rfl ?_
  refine jIf_le C 68 79 (by decide +kernel : decode cX11_ask 65 = .ok (.ifCond .le 14, 3)) rfl rfl (fun c1 => ?_) (fun c1 => ?_)
  · have h := it1 h c1
    refine jB C [(.iload_n 2, 1, 0), (.istore_n 2, 1, 0), (.iinc 4 1, 3, 1)] 84 [(4, .int (v4 + 1)), (2, .int v2), (3, .int u0), (0, .ref (b + v0)), (1, .int v1), (5, .int v5)] [] (by decide +kernel) rfl rfl ?_
    refine jGoto C 26 (by decide +kernel : decode cX11_ask 84 = .ok (.goto (-58), 3)) rfl ?_
    refine jSub [3, 4, 1, 2, 0] rfl ?_
    exact hk26 v2 u0 (v4 + 1) S h
  · have h := it2 h c1
    refine jB C [(.iload 5, 2, 0), (.iload_n 2, 1, 0)] 71 [(3, .int u0), (0, .ref (b + v0)), (1, .int v1), (2, .int v2), (4, .int v4), (5, .int v5)] [.int v2, .int v5] (by decide +kernel) rfl rfl ?_
    refine jIcmp_ge C 74 79 (by decide +kernel : decode cX11_ask 71 = .ok (.if_icmp .ge 8, 3)) rfl rfl (fun c2 => ?_) (fun c2 => ?_)
    · have h := it1 h c2
      refine jB C [(.iload_n 2, 1, 0), (.istore_n 2, 1, 0), (.iinc 4 1, 3, 1)] 84 [(4, .int (v4 + 1)), (2, .int v2), (3, .int u0), (0, .ref (b + v0)), (1, .int v1), (5, .int v5)] [] (by decide +kernel) rfl rfl ?_
      refine jGoto C 26 (by decide +kernel : decode cX11_ask 84 = .ok (.goto (-58), 3)) rfl ?_
      refine jSub [3, 4, 1, 2, 0] rfl ?_
      exact hk26 v2 u0 (v4 + 1) S h
    · have h := it2 h c2
      refine jB C [(.iload 5, 2, 0)] 76 [(3, .int u0), (0, .ref (b + v0)), (1, .int v1), (2, .int v2), (4, .int v4), (5, .int v5)] [.int v5] (by decide +kernel) rfl rfl ?_
      refine jGoto C 80 (by decide +kernel : decode cX11_ask 76 = .ok (.goto 4, 3)) rfl ?_
      refine jB C [(.istore_n 2, 1, 0), (.iinc 4 1, 3, 1)] 84 [(4, .int (v4 + 1)), (2, .int v5), (3, .int u0), (0, .ref (b + v0)), (1, .int v1), (5, .int v5)] [] (by decide +kernel) rfl rfl ?_
      refine jGoto C 26 (by decide +kernel : decode cX11_ask 84 = .ok (.goto (-58), 3)) rfl ?_
      refine jSub [3, 4, 1, 2, 0] rfl ?_
      exact hk26 v5 u0 (v4 + 1) S h
set_option maxHeartbeats 4000000 in
set_option maxRecDepth 100000 in
theorem j_X11_ask_61 {p : Program} {l : Launch} {e : Env} {s : State} {m : MethodId} {args : Array Value} {below : List Frame} {meth : Method} {c : Code} {b : Nat} {D : va_G} {cy : Nat → ClassId} {G : Gm} {k26 : Int32 → Int32 → Int32 → St → Prop} {v0 : Nat} {v1 : Int32} {v2 : Int32} {v3 : Int32} {v4 : Int32} {v5 : Int32} {S : St} {Q : Int32 → St → Prop} (C : CX p s m args meth c b D cy cX11_ask RX11 6 (some .int)) (hE : s.heap.size + 0 ≤ b + G.2.2) (t_v0 : ok G 10 v0) (hk26 : ∀ v2' v3' v4' S, k26 v2' v3' v4' S → J p l e rm_X11_ask s m args below meth c b D cy 6 (zI b D cy below args s G Q) 0 0 G S 26 [(0, .ref (b + v0)), (1, .int v1), (2, .int (v2')), (3, .int (v3')), (4, .int (v4'))] []) (h : f_X11_ask_61 G k26 v0 v1 v2 v3 v4 v5 Q S) : J p l e rm_X11_ask s m args below meth c b D cy 6 (zI b D cy below args s G Q) 0 0 G S 61 [(0, .ref (b + v0)), (1, .int v1), (2, .int v2), (3, .int v3), (4, .int v4), (5, .int v5)] [] := by
  unfold f_X11_ask_61 at h
  refine jB C [(.iload_n 3, 1, 0)] 62 [(0, .ref (b + v0)), (1, .int v1), (2, .int v2), (3, .int v3), (4, .int v4), (5, .int v5)] [.int v3] (by decide +kernel) rfl rfl ?_
  refine jSub [0, 1, 2, 4, 5] rfl ?_
  exact j_X11_ask_62 C hE t_v0 hk26 h
set_option maxHeartbeats 4000000 in
set_option maxRecDepth 100000 in
theorem j_X11_ask_26_n {p : Program} {l : Launch} {e : Env} {s : State} {m : MethodId} {args : Array Value} {below : List Frame} {meth : Method} {c : Code} {b : Nat} {D : va_G} {cy : Nat → ClassId} {G : Gm} {v0 : Nat} {v1 : Int32} {Q : Int32 → St → Prop} (C : CX p s m args meth c b D cy cX11_ask RX11 6 (some .int)) (hE : s.heap.size + 0 ≤ b + G.2.2) (t_v0 : ok G 10 v0) : ∀ k (v2 : Int32) (v3 : Int32) (v4 : Int32) S, f_X11_ask_26_n G v0 v1 Q k v2 v3 v4 S → J p l e rm_X11_ask s m args below meth c b D cy 6 (zI b D cy below args s G Q) 0 0 G S 26 [(0, .ref (b + v0)), (1, .int v1), (2, .int v2), (3, .int v3), (4, .int v4)] [] := by
  intro k
  induction k with
  | zero => intro v2 v3 v4 S h; exact h.elim
  | succ k ih =>
    intro v2 v3 v4 S h
    unfold f_X11_ask_26_n at h
    refine jB C [(.iload 4, 2, 0), (.aload_n 0, 1, 0)] 29 [(0, .ref (b + v0)), (1, .int v1), (2, .int v2), (3, .int v3), (4, .int v4)] [.ref (b + v0), .int v4] (by decide +kernel) rfl rfl ?_
    obtain ⟨a1, e_a1, h⟩ := h
    refine jGetR C 32 (by decide +kernel : decode cX11_ask 29 = .ok (.getfield 16, 3)) rfl t_v0 kX11 4 (by decide) rfl rfl (by decide) wd_1158 e_a1 rfl (fun t_a1 => ?_)
    refine jB C [(.iconst 0, 1, 0)] 33 [(0, .ref (b + v0)), (1, .int v1), (2, .int v2), (3, .int v3), (4, .int v4)] [.int 0, .ref (b + a1), .int v4] (by decide +kernel) rfl rfl ?_
    obtain ⟨y2, h⟩ := h
    refine jIald C 34 (by decide +kernel : decode cX11_ask 33 = .ok (.iaload, 1)) rfl t_a1 y2 ?_
    refine jIcmp_ge C 37 87 (by decide +kernel : decode cX11_ask 34 = .ok (.if_icmp .ge 53, 3)) rfl rfl (fun c3 => ?_) (fun c3 => ?_)
    · have h := it1 h c3
      refine jB C [(.iload_n 3, 1, 0), (.iconst (-1), 1, (-1))] 89 [(0, .ref (b + v0)), (1, .int v1), (2, .int v2), (3, .int v3), (4, .int v4)] [.int (-1), .int v3] (by decide +kernel) rfl rfl ?_
      refine jIcmp_eq C 92 96 (by decide +kernel : decode cX11_ask 89 = .ok (.if_icmp .eq 7, 3)) rfl rfl (fun c4 => ?_) (fun c4 => ?_)
      · have h := it1 h c4
        refine jB C [(.iload_n 3, 1, 0)] 97 [(0, .ref (b + v0)), (1, .int v1), (2, .int v2), (3, .int v3), (4, .int v4)] [.int v3] (by decide +kernel) rfl rfl ?_
        refine jGoto C 101 (by decide +kernel : decode cX11_ask 97 = .ok (.goto 4, 3)) rfl ?_
        exact jRetI C (by decide +kernel : decode cX11_ask 101 = .ok (.ireturn, 1)) (Nat.le_refl _) (Nat.le_refl _) ⟨rfl, h⟩
      · have h := it2 h c4
        refine jB C [(.iload_n 1, 1, 0)] 93 [(0, .ref (b + v0)), (1, .int v1), (2, .int v2), (3, .int v3), (4, .int v4)] [.int v1] (by decide +kernel) rfl rfl ?_
        refine jIf_ne C 96 100 (by decide +kernel : decode cX11_ask 93 = .ok (.ifCond .ne 7, 3)) rfl rfl (fun c5 => ?_) (fun c5 => ?_)
        · have h := it2 h c5
          refine jB C [(.iload_n 2, 1, 0)] 101 [(0, .ref (b + v0)), (1, .int v1), (2, .int v2), (3, .int v3), (4, .int v4)] [.int v2] (by decide +kernel) rfl rfl ?_
          exact jRetI C (by decide +kernel : decode cX11_ask 101 = .ok (.ireturn, 1)) (Nat.le_refl _) (Nat.le_refl _) ⟨rfl, h⟩
        · have h := it1 h c5
          refine jB C [(.iload_n 3, 1, 0)] 97 [(0, .ref (b + v0)), (1, .int v1), (2, .int v2), (3, .int v3), (4, .int v4)] [.int v3] (by decide +kernel) rfl rfl ?_
          refine jGoto C 101 (by decide +kernel : decode cX11_ask 97 = .ok (.goto 4, 3)) rfl ?_
          exact jRetI C (by decide +kernel : decode cX11_ask 101 = .ok (.ireturn, 1)) (Nat.le_refl _) (Nat.le_refl _) ⟨rfl, h⟩
    · have h := it2 h c3
      refine jB C [(.aload_n 0, 1, 0), (.iload 4, 2, 0)] 40 [(0, .ref (b + v0)), (1, .int v1), (2, .int v2), (3, .int v3), (4, .int v4)] [.int v4, .ref (b + v0)] (by decide +kernel) rfl rfl ?_
      refine jcV_I C 43 (rest := []) (ok_X11_mostAlike t_v0 h) (by decide +kernel : decode cX11_ask 40 = .ok (.invokevirtual 505, 3)) rfl wd_1736 wd_1738 wp_157 wd_12 wd_1739 ⟨rfl, rfl⟩ hd_X11_mostAlike ⟨Nat.le_of_ble_eq_true rfl, Nat.le_of_ble_eq_true rfl⟩ t_v0 kX11 (by decide) rfl rfl rfl (Nat.le_of_ble_eq_true rfl) ⟨Nat.zero_le _, Nat.zero_le _⟩ (fun r7 S6 h => ?_)
      refine jB C [(.istore 5, 2, 0), (.iload 5, 2, 0)] 47 [(5, .int r7), (0, .ref (b + v0)), (1, .int v1), (2, .int v2), (3, .int v3), (4, .int v4)] [.int r7] (by decide +kernel) rfl rfl ?_
      refine jIf_le C 50 61 (by decide +kernel : decode cX11_ask 47 = .ok (.ifCond .le 14, 3)) rfl rfl (fun c8 => ?_) (fun c8 => ?_)
      · have h := it1 h c8
        refine jSub [1, 2, 3, 4, 5, 0] rfl ?_
        exact j_X11_ask_61 C hE t_v0 ih h
      · have h := it2 h c8
        refine jB C [(.iload 5, 2, 0), (.iload_n 2, 1, 0)] 53 [(5, .int r7), (0, .ref (b + v0)), (1, .int v1), (2, .int v2), (3, .int v3), (4, .int v4)] [.int v2, .int r7] (by decide +kernel) rfl rfl ?_
        refine jIcmp_ge C 56 61 (by decide +kernel : decode cX11_ask 53 = .ok (.if_icmp .ge 8, 3)) rfl rfl (fun c9 => ?_) (fun c9 => ?_)
        · have h := it1 h c9
          refine jSub [1, 2, 3, 4, 5, 0] rfl ?_
          exact j_X11_ask_61 C hE t_v0 ih h
        · have h := it2 h c9
          refine jB C [(.iload 4, 2, 0)] 58 [(5, .int r7), (0, .ref (b + v0)), (1, .int v1), (2, .int v2), (3, .int v3), (4, .int v4)] [.int v4] (by decide +kernel) rfl rfl ?_
          refine jGoto C 62 (by decide +kernel : decode cX11_ask 58 = .ok (.goto 4, 3)) rfl ?_
          refine jSub [1, 2, 3, 5, 0] rfl ?_
          exact j_X11_ask_62 C hE t_v0 ih h
theorem j_X11_ask_26 {p : Program} {l : Launch} {e : Env} {s : State} {m : MethodId} {args : Array Value} {below : List Frame} {meth : Method} {c : Code} {b : Nat} {D : va_G} {cy : Nat → ClassId} {G : Gm} {v0 : Nat} {v1 : Int32} {v2 : Int32} {v3 : Int32} {v4 : Int32} {S : St} {Q : Int32 → St → Prop} (C : CX p s m args meth c b D cy cX11_ask RX11 6 (some .int)) (hE : s.heap.size + 0 ≤ b + G.2.2) (t_v0 : ok G 10 v0) (h : f_X11_ask_26 G v0 v1 Q v2 v3 v4 S) : J p l e rm_X11_ask s m args below meth c b D cy 6 (zI b D cy below args s G Q) 0 0 G S 26 [(0, .ref (b + v0)), (1, .int v1), (2, .int v2), (3, .int v3), (4, .int v4)] [] := by
  obtain ⟨k, h⟩ := h
  exact j_X11_ask_26_n C hE t_v0 k v2 v3 v4 S h
set_option maxHeartbeats 4000000 in
set_option maxRecDepth 100000 in
theorem j_X11_ask {p : Program} {l : Launch} {e : Env} {s : State} {m : MethodId} {args : Array Value} {below : List Frame} {meth : Method} {c : Code} {b : Nat} {D : va_G} {cy : Nat → ClassId} {G : Gm} {v0 : Nat} {v1 : Int32} {S : St} {Q : Int32 → St → Prop} (C : CX p s m args meth c b D cy cX11_ask RX11 6 (some .int)) (hE : s.heap.size + 0 ≤ b + G.2.2) (t_v0 : ok G 10 v0) (h : f_X11_ask G v0 v1 Q S) : J p l e rm_X11_ask s m args below meth c b D cy 6 (zI b D cy below args s G Q) 0 0 G S 0 [(0, .ref (b + v0)), (1, .int v1)] [] := by
  unfold f_X11_ask at h
  refine jB C [(.aload_n 0, 1, 0), (.iconst 0, 1, 0)] 2 [(0, .ref (b + v0)), (1, .int v1)] [.int 0, .ref (b + v0)] (by decide +kernel) rfl rfl ?_
  refine jPutI C 5 (by decide +kernel : decode cX11_ask 2 = .ok (.putfield 165, 3)) rfl hE t_v0 kX11 0 (by decide) rfl rfl (by decide) rfl wd_1154 rfl rfl rfl ?_
  refine jTopS (fun S1 e_S1 => ?_)
  have h := h S1 e_S1
  refine jB C [(.iload_n 1, 1, 0), (.i2l, 1, 0), (.lconst 0, 1, 0), (.lconst 1, 1, 0)] 9 [(0, .ref (b + v0)), (1, .int v1)] [.long 1, .long 0, .long v1.toInt64] (by decide +kernel) rfl rfl ?_
  refine jcS_I C 12 (rest := []) (ok_X11_in h) (by decide +kernel : decode cX11_ask 9 = .ok (.invokestatic 185, 3)) rfl wd_1352 wd_1353 wd_12 wd_1354 ⟨rfl, rfl⟩ hd_X11_in ⟨Nat.le_of_ble_eq_true rfl, Nat.le_of_ble_eq_true rfl⟩ rfl rfl (Nat.le_of_ble_eq_true rfl) ⟨Nat.zero_le _, Nat.zero_le _⟩ (fun r3 S2 h => ?_)
  refine jIf_ne C 15 17 (by decide +kernel : decode cX11_ask 12 = .ok (.ifCond .ne 5, 3)) rfl rfl (fun c4 => ?_) (fun c4 => ?_)
  · have h := it2 h c4
    refine jLdcw C 20 (by decide +kernel : decode cX11_ask 17 = .ok (.ldc_w 495, 3)) rfl wd_1711 ?_
    refine jB C [(.istore_n 2, 1, 0), (.iconst (-1), 1, (-1)), (.istore_n 3, 1, 0), (.iconst 0, 1, 0), (.istore 4, 2, 0)] 26 [(4, .int 0), (3, .int (-1)), (2, .int 100000000), (0, .ref (b + v0)), (1, .int v1)] [] (by decide +kernel) rfl rfl ?_
    refine jSub [3, 4, 2, 1, 0] rfl ?_
    exact j_X11_ask_26 C hE t_v0 h
  · have h := it1 h c4
    refine jB C [(.iconst (-1), 1, (-1))] 16 [(0, .ref (b + v0)), (1, .int v1)] [.int (-1)] (by decide +kernel) rfl rfl ?_
    exact jRetI C (by decide +kernel : decode cX11_ask 16 = .ok (.ireturn, 1)) (Nat.le_refl _) (Nat.le_refl _) ⟨rfl, h⟩
theorem ok_X11_ask {G : Gm} {v0 : Nat} {v1 : Int32} {S : St} {Q : Int32 → St → Prop}  (t_v0 : ok G 10 v0) (h : f_X11_ask G v0 v1 Q S) : MT yX11_ask cX11_ask 6 (some .int) rm_X11_ask 0 0 (fun b => [.ref (b + v0), .int v1]) G S (QI (fun r G1 S1 => G1 = G ∧ Q r S1)) := MT.ofJ (by decide +kernel) (fun b => [(0, .ref (b + v0)), (1, .int v1)]) (fun b => rfl) (fun b => Nat.le_of_ble_eq_true rfl) (fun l b D cy p e s m below meth c C hE hn => j_X11_ask C hE t_v0 h)
theorem hd_X11_ask : yX11_ask.cls ≠ "java/lang/invoke/MethodHandle" ∧ yX11_ask.cls ≠ "java/lang/invoke/VarHandle" ∧ (parseMethodDescriptor yX11_ask.desc).map (fun d => d.parameters.length) = some 1 := by decide +kernel
abbrev rm_X11_asks : Room := { frames := 7, cells := 0, slots := 0, locals := 165 }
set_option maxHeartbeats 4000000 in
set_option maxRecDepth 100000 in
theorem j_X11_asks {p : Program} {l : Launch} {e : Env} {s : State} {m : MethodId} {args : Array Value} {below : List Frame} {meth : Method} {c : Code} {b : Nat} {D : va_G} {cy : Nat → ClassId} {G : Gm} {v0 : Nat} {v1 : Int32} {v2 : Int32} {v3 : Int32} {S : St} {Q : Int32 → St → Prop} (C : CX p s m args meth c b D cy cX11_asks RX11 4 (some .int)) (hE : s.heap.size + 0 ≤ b + G.2.2) (t_v0 : ok G 10 v0) (h : f_X11_asks G v0 v1 v2 v3 Q S) : J p l e rm_X11_asks s m args below meth c b D cy 4 (zI b D cy below args s G Q) 0 0 G S 0 [(0, .ref (b + v0)), (1, .int v1), (2, .int v2), (3, .int v3)] [] := by
  unfold f_X11_asks at h
  refine jB C [(.aload_n 0, 1, 0), (.iconst 0, 1, 0)] 2 [(0, .ref (b + v0)), (1, .int v1), (2, .int v2), (3, .int v3)] [.int 0, .ref (b + v0)] (by decide +kernel) rfl rfl ?_
  refine jPutI C 5 (by decide +kernel : decode cX11_asks 2 = .ok (.putfield 165, 3)) rfl hE t_v0 kX11 0 (by decide) rfl rfl (by decide) rfl wd_1154 rfl rfl rfl ?_
  refine jTopS (fun S1 e_S1 => ?_)
  have h := h S1 e_S1
  refine jB C [(.aload_n 0, 1, 0), (.iload_n 1, 1, 0)] 7 [(0, .ref (b + v0)), (1, .int v1), (2, .int v2), (3, .int v3)] [.int v1, .ref (b + v0)] (by decide +kernel) rfl rfl ?_
  refine jcV_I C 10 (rest := []) (ok_X11_isPerson t_v0 h) (by decide +kernel : decode cX11_asks 7 = .ok (.invokevirtual 209, 3)) rfl wd_1376 wd_1378 wp_103 wd_12 wd_1379 ⟨rfl, rfl⟩ hd_X11_isPerson ⟨Nat.le_of_ble_eq_true rfl, Nat.le_of_ble_eq_true rfl⟩ t_v0 kX11 (by decide) rfl rfl rfl (Nat.le_of_ble_eq_true rfl) ⟨Nat.zero_le _, Nat.zero_le _⟩ (fun r3 S2 h => ?_)
  refine jIf_eq C 13 30 (by decide +kernel : decode cX11_asks 10 = .ok (.ifCond .eq 20, 3)) rfl rfl (fun c4 => ?_) (fun c4 => ?_)
  · have h := it1 h c4
    refine jB C [(.bipush (-100), 2, (-100))] 32 [(0, .ref (b + v0)), (1, .int v1), (2, .int v2), (3, .int v3)] [.int (-100)] (by decide +kernel) rfl rfl ?_
    exact jRetI C (by decide +kernel : decode cX11_asks 32 = .ok (.ireturn, 1)) (Nat.le_refl _) (Nat.le_refl _) ⟨rfl, h⟩
  · have h := it2 h c4
    refine jB C [(.iload_n 2, 1, 0)] 14 [(0, .ref (b + v0)), (1, .int v1), (2, .int v2), (3, .int v3)] [.int v2] (by decide +kernel) rfl rfl ?_
    refine jcS_I C 17 (rest := []) (ok_X11_isKind h) (by decide +kernel : decode cX11_asks 14 = .ok (.invokestatic 224, 3)) rfl wd_1438 wd_1439 wd_12 wd_1440 ⟨rfl, rfl⟩ hd_X11_isKind ⟨Nat.le_of_ble_eq_true rfl, Nat.le_of_ble_eq_true rfl⟩ rfl rfl (Nat.le_of_ble_eq_true rfl) ⟨Nat.zero_le _, Nat.zero_le _⟩ (fun r6 S5 h => ?_)
    refine jIf_eq C 20 30 (by decide +kernel : decode cX11_asks 17 = .ok (.ifCond .eq 13, 3)) rfl rfl (fun c7 => ?_) (fun c7 => ?_)
    · have h := it1 h c7
      refine jB C [(.bipush (-100), 2, (-100))] 32 [(0, .ref (b + v0)), (1, .int v1), (2, .int v2), (3, .int v3)] [.int (-100)] (by decide +kernel) rfl rfl ?_
      exact jRetI C (by decide +kernel : decode cX11_asks 32 = .ok (.ireturn, 1)) (Nat.le_refl _) (Nat.le_refl _) ⟨rfl, h⟩
    · have h := it2 h c7
      refine jB C [(.iload_n 3, 1, 0), (.i2l, 1, 0), (.lconst 0, 1, 0), (.lconst 1, 1, 0)] 24 [(0, .ref (b + v0)), (1, .int v1), (2, .int v2), (3, .int v3)] [.long 1, .long 0, .long v3.toInt64] (by decide +kernel) rfl rfl ?_
      refine jcS_I C 27 (rest := []) (ok_X11_in h) (by decide +kernel : decode cX11_asks 24 = .ok (.invokestatic 185, 3)) rfl wd_1352 wd_1353 wd_12 wd_1354 ⟨rfl, rfl⟩ hd_X11_in ⟨Nat.le_of_ble_eq_true rfl, Nat.le_of_ble_eq_true rfl⟩ rfl rfl (Nat.le_of_ble_eq_true rfl) ⟨Nat.zero_le _, Nat.zero_le _⟩ (fun r9 S8 h => ?_)
      refine jIf_ne C 30 33 (by decide +kernel : decode cX11_asks 27 = .ok (.ifCond .ne 6, 3)) rfl rfl (fun c10 => ?_) (fun c10 => ?_)
      · have h := it2 h c10
        refine jB C [(.iload_n 3, 1, 0)] 34 [(0, .ref (b + v0)), (1, .int v1), (2, .int v2), (3, .int v3)] [.int v3] (by decide +kernel) rfl rfl ?_
        refine jIf_ne C 37 46 (by decide +kernel : decode cX11_asks 34 = .ok (.ifCond .ne 12, 3)) rfl rfl (fun c11 => ?_) (fun c11 => ?_)
        · have h := it2 h c11
          refine jB C [(.aload_n 0, 1, 0), (.iload_n 1, 1, 0), (.iload_n 2, 1, 0)] 49 [(0, .ref (b + v0)), (1, .int v1), (2, .int v2), (3, .int v3)] [.int v2, .int v1, .ref (b + v0)] (by decide +kernel) rfl rfl ?_
          refine jcV_I C 52 (rest := []) (ok_X11_growsOf t_v0 h) (by decide +kernel : decode cX11_asks 49 = .ok (.invokevirtual 230, 3)) rfl wd_1445 wd_1447 wp_115 wd_12 wd_1448 ⟨rfl, rfl⟩ hd_X11_growsOf ⟨Nat.le_of_ble_eq_true rfl, Nat.le_of_ble_eq_true rfl⟩ t_v0 kX11 (by decide) rfl rfl rfl (Nat.le_of_ble_eq_true rfl) ⟨Nat.zero_le _, Nat.zero_le _⟩ (fun r13 S12 h => ?_)
          exact jRetI C (by decide +kernel : decode cX11_asks 52 = .ok (.ireturn, 1)) (Nat.le_refl _) (Nat.le_refl _) ⟨rfl, h⟩
        · have h := it1 h c11
          refine jB C [(.aload_n 0, 1, 0), (.iload_n 1, 1, 0), (.iload_n 2, 1, 0)] 40 [(0, .ref (b + v0)), (1, .int v1), (2, .int v2), (3, .int v3)] [.int v2, .int v1, .ref (b + v0)] (by decide +kernel) rfl rfl ?_
          refine jcV_I C 43 (rest := []) (ok_X11_grindsOf t_v0 h) (by decide +kernel : decode cX11_asks 40 = .ok (.invokevirtual 227, 3)) rfl wd_1441 wd_1443 wp_114 wd_12 wd_1444 ⟨rfl, rfl⟩ hd_X11_grindsOf ⟨Nat.le_of_ble_eq_true rfl, Nat.le_of_ble_eq_true rfl⟩ t_v0 kX11 (by decide) rfl rfl rfl (Nat.le_of_ble_eq_true rfl) ⟨Nat.zero_le _, Nat.zero_le _⟩ (fun r15 S14 h => ?_)
          refine jGoto C 52 (by decide +kernel : decode cX11_asks 43 = .ok (.goto 9, 3)) rfl ?_
          exact jRetI C (by decide +kernel : decode cX11_asks 52 = .ok (.ireturn, 1)) (Nat.le_refl _) (Nat.le_refl _) ⟨rfl, h⟩
      · have h := it1 h c10
        refine jB C [(.bipush (-100), 2, (-100))] 32 [(0, .ref (b + v0)), (1, .int v1), (2, .int v2), (3, .int v3)] [.int (-100)] (by decide +kernel) rfl rfl ?_
        exact jRetI C (by decide +kernel : decode cX11_asks 32 = .ok (.ireturn, 1)) (Nat.le_refl _) (Nat.le_refl _) ⟨rfl, h⟩
theorem ok_X11_asks {G : Gm} {v0 : Nat} {v1 : Int32} {v2 : Int32} {v3 : Int32} {S : St} {Q : Int32 → St → Prop}  (t_v0 : ok G 10 v0) (h : f_X11_asks G v0 v1 v2 v3 Q S) : MT yX11_asks cX11_asks 4 (some .int) rm_X11_asks 0 0 (fun b => [.ref (b + v0), .int v1, .int v2, .int v3]) G S (QI (fun r G1 S1 => G1 = G ∧ Q r S1)) := MT.ofJ (by decide +kernel) (fun b => [(0, .ref (b + v0)), (1, .int v1), (2, .int v2), (3, .int v3)]) (fun b => rfl) (fun b => Nat.le_of_ble_eq_true rfl) (fun l b D cy p e s m below meth c C hE hn => j_X11_asks C hE t_v0 h)
theorem hd_X11_asks : yX11_asks.cls ≠ "java/lang/invoke/MethodHandle" ∧ yX11_asks.cls ≠ "java/lang/invoke/VarHandle" ∧ (parseMethodDescriptor yX11_asks.desc).map (fun d => d.parameters.length) = some 3 := by decide +kernel
abbrev rm_X11_tell : Room := { frames := 0, cells := 0, slots := 0, locals := 0 }
set_option maxHeartbeats 4000000 in
set_option maxRecDepth 100000 in
theorem j_X11_tell_10 {p : Program} {l : Launch} {e : Env} {s : State} {m : MethodId} {args : Array Value} {below : List Frame} {meth : Method} {c : Code} {b : Nat} {D : va_G} {cy : Nat → ClassId} {G : Gm} {v0 : Nat} {v1 : Int32} {u0 : Int32} {u1 : Nat} {S : St} {Q : Int32 → St → Prop} (C : CX p s m args meth c b D cy cX11_tell RX11 2 (some .int)) (hE : s.heap.size + 0 ≤ b + G.2.2) (t_v0 : ok G 10 v0) (t_u1 : ok G 10 u1) (h : f_X11_tell_10 G v0 v1 u0 u1 Q S) : J p l e rm_X11_tell s m args below meth c b D cy 2 (zI b D cy below args s G Q) 0 0 G S 10 [(0, .ref (b + v0)), (1, .int v1)] [.int u0, .ref (b + u1)] := by
  unfold f_X11_tell_10 at h
  refine jPutI C 13 (by decide +kernel : decode cX11_tell 10 = .ok (.putfield 168, 3)) rfl hE t_u1 kX11 1 (by decide) rfl rfl (by decide) rfl wd_1155 rfl rfl rfl ?_
  refine jTopS (fun S1 e_S1 => ?_)
  have h := h S1 e_S1
  refine jB C [(.iload_n 1, 1, 0)] 14 [(0, .ref (b + v0)), (1, .int v1)] [.int v1] (by decide +kernel) rfl rfl ?_
  refine jIf_ge C 17 28 (by decide +kernel : decode cX11_tell 14 = .ok (.ifCond .ge 14, 3)) rfl rfl (fun c2 => ?_) (fun c2 => ?_)
  · have h := it1 h c2
    refine jB C [(.iload_n 1, 1, 0)] 29 [(0, .ref (b + v0)), (1, .int v1)] [.int v1] (by decide +kernel) rfl rfl ?_
    exact jRetI C (by decide +kernel : decode cX11_tell 29 = .ok (.ireturn, 1)) (Nat.le_refl _) (Nat.le_refl _) ⟨rfl, h⟩
  · have h := it2 h c2
    refine jB C [(.aload_n 0, 1, 0)] 18 [(0, .ref (b + v0)), (1, .int v1)] [.ref (b + v0)] (by decide +kernel) rfl rfl ?_
    obtain ⟨a3, e_a3, h⟩ := h
    refine jGetR C 21 (by decide +kernel : decode cX11_tell 18 = .ok (.getfield 7, 3)) rfl t_v0 kX11 2 (by decide) rfl rfl (by decide) wd_1156 e_a3 rfl (fun t_a3 => ?_)
    refine jB C [(.iload_n 1, 1, 0), (.ineg, 1, 0), (.dup2, 1, 0)] 24 [(0, .ref (b + v0)), (1, .int v1)] [.int (-v1), .ref (b + a3), .int (-v1), .ref (b + a3)] (by decide +kernel) rfl rfl ?_
    obtain ⟨y4, h⟩ := h
    refine jIald C 25 (by decide +kernel : decode cX11_tell 24 = .ok (.iaload, 1)) rfl t_a3 y4 ?_
    refine jB C [(.iconst 1, 1, 1), (.iadd, 1, 0)] 27 [(0, .ref (b + v0)), (1, .int v1)] [.int ((S1.1 a3 (-v1).toNatClampNeg) + 1), .int (-v1), .ref (b + a3)] (by decide +kernel) rfl rfl ?_
    obtain ⟨y5, h⟩ := h
    refine jIast C 28 (by decide +kernel : decode cX11_tell 27 = .ok (.iastore, 1)) rfl hE t_a3 y5 ?_
    refine jTopS (fun S6 e_S6 => ?_)
    have h := h S6 e_S6
    refine jB C [(.iload_n 1, 1, 0)] 29 [(0, .ref (b + v0)), (1, .int v1)] [.int v1] (by decide +kernel) rfl rfl ?_
    exact jRetI C (by decide +kernel : decode cX11_tell 29 = .ok (.ireturn, 1)) (Nat.le_refl _) (Nat.le_refl _) ⟨rfl, h⟩
set_option maxHeartbeats 4000000 in
set_option maxRecDepth 100000 in
theorem j_X11_tell {p : Program} {l : Launch} {e : Env} {s : State} {m : MethodId} {args : Array Value} {below : List Frame} {meth : Method} {c : Code} {b : Nat} {D : va_G} {cy : Nat → ClassId} {G : Gm} {v0 : Nat} {v1 : Int32} {S : St} {Q : Int32 → St → Prop} (C : CX p s m args meth c b D cy cX11_tell RX11 2 (some .int)) (hE : s.heap.size + 0 ≤ b + G.2.2) (t_v0 : ok G 10 v0) (h : f_X11_tell G v0 v1 Q S) : J p l e rm_X11_tell s m args below meth c b D cy 2 (zI b D cy below args s G Q) 0 0 G S 0 [(0, .ref (b + v0)), (1, .int v1)] [] := by
  unfold f_X11_tell at h
  refine jB C [(.aload_n 0, 1, 0), (.iload_n 1, 1, 0)] 2 [(0, .ref (b + v0)), (1, .int v1)] [.int v1, .ref (b + v0)] (by decide +kernel) rfl rfl ?_
  refine jIf_ge C 5 9 (by decide +kernel : decode cX11_tell 2 = .ok (.ifCond .ge 7, 3)) rfl rfl (fun c1 => ?_) (fun c1 => ?_)
  · have h := it1 h c1
    refine jB C [(.iconst 0, 1, 0)] 10 [(0, .ref (b + v0)), (1, .int v1)] [.int 0, .ref (b + v0)] (by decide +kernel) rfl rfl ?_
    refine jSub [0, 1] rfl ?_
    exact j_X11_tell_10 C hE t_v0 t_v0 h
  · have h := it2 h c1
    refine jB C [(.iload_n 1, 1, 0)] 6 [(0, .ref (b + v0)), (1, .int v1)] [.int v1, .ref (b + v0)] (by decide +kernel) rfl rfl ?_
    refine jGoto C 10 (by decide +kernel : decode cX11_tell 6 = .ok (.goto 4, 3)) rfl ?_
    refine jSub [0, 1] rfl ?_
    exact j_X11_tell_10 C hE t_v0 t_v0 h
theorem ok_X11_tell {G : Gm} {v0 : Nat} {v1 : Int32} {S : St} {Q : Int32 → St → Prop}  (t_v0 : ok G 10 v0) (h : f_X11_tell G v0 v1 Q S) : MT yX11_tell cX11_tell 2 (some .int) rm_X11_tell 0 0 (fun b => [.ref (b + v0), .int v1]) G S (QI (fun r G1 S1 => G1 = G ∧ Q r S1)) := MT.ofJ (by decide +kernel) (fun b => [(0, .ref (b + v0)), (1, .int v1)]) (fun b => rfl) (fun b => Nat.le_of_ble_eq_true rfl) (fun l b D cy p e s m below meth c C hE hn => j_X11_tell C hE t_v0 h)
theorem hd_X11_tell : yX11_tell.cls ≠ "java/lang/invoke/MethodHandle" ∧ yX11_tell.cls ≠ "java/lang/invoke/VarHandle" ∧ (parseMethodDescriptor yX11_tell.desc).map (fun d => d.parameters.length) = some 1 := by decide +kernel
abbrev rm_X11_settled : Room := { frames := 1, cells := 0, slots := 0, locals := 21 }
set_option maxHeartbeats 4000000 in
set_option maxRecDepth 100000 in
theorem j_X11_settled_13 {p : Program} {l : Launch} {e : Env} {s : State} {m : MethodId} {args : Array Value} {below : List Frame} {meth : Method} {c : Code} {b : Nat} {D : va_G} {cy : Nat → ClassId} {G : Gm} {v0 : Nat} {v1 : Int32} {u0 : Int32} {u1 : Nat} {S : St} {Q : Int32 → St → Prop} (C : CX p s m args meth c b D cy cX11_settled RX11 2 (some .int)) (hE : s.heap.size + 0 ≤ b + G.2.2) (t_v0 : ok G 10 v0) (t_u1 : ok G 10 u1) (h : f_X11_settled_13 G v0 v1 u0 u1 Q S) : J p l e rm_X11_settled s m args below meth c b D cy 2 (zI b D cy below args s G Q) 0 0 G S 13 [(0, .ref (b + v0)), (1, .int v1)] [.int u0, .ref (b + u1)] := by
  unfold f_X11_settled_13 at h
  refine jPutI C 16 (by decide +kernel : decode cX11_settled 13 = .ok (.putfield 171, 3)) rfl hE t_u1 kX11 9 (by decide) rfl rfl (by decide) rfl wd_1163 rfl rfl rfl ?_
  refine jTopS (fun S1 e_S1 => ?_)
  have h := h S1 e_S1
  refine jB C [(.aload_n 0, 1, 0), (.iload_n 1, 1, 0)] 18 [(0, .ref (b + v0)), (1, .int v1)] [.int v1, .ref (b + v0)] (by decide +kernel) rfl rfl ?_
  refine jcV_I C 21 (rest := []) (ok_X11_tell t_v0 h) (by decide +kernel : decode cX11_settled 18 = .ok (.invokevirtual 174, 3)) rfl wd_1340 wd_1342 wp_99 wd_12 wd_1343 ⟨rfl, rfl⟩ hd_X11_tell ⟨Nat.le_of_ble_eq_true rfl, Nat.le_of_ble_eq_true rfl⟩ t_v0 kX11 (by decide) rfl rfl rfl (Nat.le_of_ble_eq_true rfl) ⟨Nat.zero_le _, Nat.zero_le _⟩ (fun r3 S2 h => ?_)
  exact jRetI C (by decide +kernel : decode cX11_settled 21 = .ok (.ireturn, 1)) (Nat.le_refl _) (Nat.le_refl _) ⟨rfl, h⟩
set_option maxHeartbeats 4000000 in
set_option maxRecDepth 100000 in
theorem j_X11_settled {p : Program} {l : Launch} {e : Env} {s : State} {m : MethodId} {args : Array Value} {below : List Frame} {meth : Method} {c : Code} {b : Nat} {D : va_G} {cy : Nat → ClassId} {G : Gm} {v0 : Nat} {v1 : Int32} {S : St} {Q : Int32 → St → Prop} (C : CX p s m args meth c b D cy cX11_settled RX11 2 (some .int)) (hE : s.heap.size + 0 ≤ b + G.2.2) (t_v0 : ok G 10 v0) (h : f_X11_settled G v0 v1 Q S) : J p l e rm_X11_settled s m args below meth c b D cy 2 (zI b D cy below args s G Q) 0 0 G S 0 [(0, .ref (b + v0)), (1, .int v1)] [] := by
  unfold f_X11_settled at h
  refine jB C [(.aload_n 0, 1, 0), (.iload_n 1, 1, 0)] 2 [(0, .ref (b + v0)), (1, .int v1)] [.int v1, .ref (b + v0)] (by decide +kernel) rfl rfl ?_
  refine jIf_ge C 5 12 (by decide +kernel : decode cX11_settled 2 = .ok (.ifCond .ge 10, 3)) rfl rfl (fun c1 => ?_) (fun c1 => ?_)
  · have h := it1 h c1
    refine jB C [(.iconst 0, 1, 0)] 13 [(0, .ref (b + v0)), (1, .int v1)] [.int 0, .ref (b + v0)] (by decide +kernel) rfl rfl ?_
    refine jSub [0, 1] rfl ?_
    exact j_X11_settled_13 C hE t_v0 t_v0 h
  · have h := it2 h c1
    refine jB C [(.aload_n 0, 1, 0)] 6 [(0, .ref (b + v0)), (1, .int v1)] [.ref (b + v0), .ref (b + v0)] (by decide +kernel) rfl rfl ?_
    refine jGetI C 9 (by decide +kernel : decode cX11_settled 6 = .ok (.getfield 171, 3)) rfl t_v0 kX11 9 (by decide) rfl rfl (by decide) wd_1163 ?_
    refine jGoto C 13 (by decide +kernel : decode cX11_settled 9 = .ok (.goto 4, 3)) rfl ?_
    refine jSub [0, 1] rfl ?_
    exact j_X11_settled_13 C hE t_v0 t_v0 h
theorem ok_X11_settled {G : Gm} {v0 : Nat} {v1 : Int32} {S : St} {Q : Int32 → St → Prop}  (t_v0 : ok G 10 v0) (h : f_X11_settled G v0 v1 Q S) : MT yX11_settled cX11_settled 2 (some .int) rm_X11_settled 0 0 (fun b => [.ref (b + v0), .int v1]) G S (QI (fun r G1 S1 => G1 = G ∧ Q r S1)) := MT.ofJ (by decide +kernel) (fun b => [(0, .ref (b + v0)), (1, .int v1)]) (fun b => rfl) (fun b => Nat.le_of_ble_eq_true rfl) (fun l b D cy p e s m below meth c C hE hn => j_X11_settled C hE t_v0 h)
theorem hd_X11_settled : yX11_settled.cls ≠ "java/lang/invoke/MethodHandle" ∧ yX11_settled.cls ≠ "java/lang/invoke/VarHandle" ∧ (parseMethodDescriptor yX11_settled.desc).map (fun d => d.parameters.length) = some 1 := by decide +kernel
abbrev rm_X11_back : Room := { frames := 2, cells := 0, slots := 0, locals := 42 }
set_option maxHeartbeats 4000000 in
set_option maxRecDepth 100000 in
theorem j_X11_back_39_n {p : Program} {l : Launch} {e : Env} {s : State} {m : MethodId} {args : Array Value} {below : List Frame} {meth : Method} {c : Code} {b : Nat} {D : va_G} {cy : Nat → ClassId} {G : Gm} {v0 : Nat} {v1 : Int32} {Q : Int32 → St → Prop} (C : CX p s m args meth c b D cy cX11_back RX11 3 (some .int)) (hE : s.heap.size + 0 ≤ b + G.2.2) (t_v0 : ok G 10 v0) : ∀ k (v2 : Int32) S, f_X11_back_39_n G v0 v1 Q k v2 S → J p l e rm_X11_back s m args below meth c b D cy 3 (zI b D cy below args s G Q) 0 0 G S 39 [(0, .ref (b + v0)), (1, .int v1), (2, .int v2)] [] := by
  intro k
  induction k with
  | zero => intro v2 S h; exact h.elim
  | succ k ih =>
    intro v2 S h
    unfold f_X11_back_39_n at h
    refine jB C [(.iload_n 2, 1, 0), (.sipush 5485, 3, 5485)] 43 [(0, .ref (b + v0)), (1, .int v1), (2, .int v2)] [.int 5485, .int v2] (by decide +kernel) rfl rfl ?_
    refine jIcmp_ge C 46 70 (by decide +kernel : decode cX11_back 43 = .ok (.if_icmp .ge 27, 3)) rfl rfl (fun c1 => ?_) (fun c1 => ?_)
    · have h := it1 h c1
      refine jB C [(.aload_n 0, 1, 0), (.iconst 0, 1, 0)] 72 [(0, .ref (b + v0)), (1, .int v1), (2, .int v2)] [.int 0, .ref (b + v0)] (by decide +kernel) rfl rfl ?_
      refine jcV_I C 75 (rest := []) (ok_X11_settled t_v0 h) (by decide +kernel : decode cX11_back 72 = .ok (.invokevirtual 189, 3)) rfl wd_1359 wd_1361 wp_101 wd_12 wd_1362 ⟨rfl, rfl⟩ hd_X11_settled ⟨Nat.le_of_ble_eq_true rfl, Nat.le_of_ble_eq_true rfl⟩ t_v0 kX11 (by decide) rfl rfl rfl (Nat.le_of_ble_eq_true rfl) ⟨Nat.zero_le _, Nat.zero_le _⟩ (fun r3 S2 h => ?_)
      exact jRetI C (by decide +kernel : decode cX11_back 75 = .ok (.ireturn, 1)) (Nat.le_refl _) (Nat.le_refl _) ⟨rfl, h⟩
    · have h := it2 h c1
      refine jB C [(.aload_n 0, 1, 0)] 47 [(0, .ref (b + v0)), (1, .int v1), (2, .int v2)] [.ref (b + v0)] (by decide +kernel) rfl rfl ?_
      obtain ⟨a4, e_a4, h⟩ := h
      refine jGetR C 50 (by decide +kernel : decode cX11_back 47 = .ok (.getfield 16, 3)) rfl t_v0 kX11 4 (by decide) rfl rfl (by decide) wd_1158 e_a4 rfl (fun t_a4 => ?_)
      refine jB C [(.iload_n 2, 1, 0), (.aload_n 0, 1, 0)] 52 [(0, .ref (b + v0)), (1, .int v1), (2, .int v2)] [.ref (b + v0), .int v2, .ref (b + a4)] (by decide +kernel) rfl rfl ?_
      obtain ⟨a5, e_a5, h⟩ := h
      refine jGetR C 55 (by decide +kernel : decode cX11_back 52 = .ok (.getfield 19, 3)) rfl t_v0 kX11 5 (by decide) rfl rfl (by decide) wd_1159 e_a5 rfl (fun t_a5 => ?_)
      refine jB C [(.sipush 5485, 3, 5485), (.iload_n 1, 1, 0), (.imul, 1, 0), (.iload_n 2, 1, 0), (.iadd, 1, 0)] 62 [(0, .ref (b + v0)), (1, .int v1), (2, .int v2)] [.int ((5485 * v1) + v2), .ref (b + a5), .int v2, .ref (b + a4)] (by decide +kernel) rfl rfl ?_
      obtain ⟨y6, h⟩ := h
      refine jIald C 63 (by decide +kernel : decode cX11_back 62 = .ok (.iaload, 1)) rfl t_a5 y6 ?_
      obtain ⟨y7, h⟩ := h
      refine jIast C 64 (by decide +kernel : decode cX11_back 63 = .ok (.iastore, 1)) rfl hE t_a4 y7 ?_
      refine jTopS (fun S8 e_S8 => ?_)
      have h := h S8 e_S8
      refine jB C [(.iinc 2 1, 3, 1)] 67 [(2, .int (v2 + 1)), (0, .ref (b + v0)), (1, .int v1)] [] (by decide +kernel) rfl rfl ?_
      refine jGoto C 39 (by decide +kernel : decode cX11_back 67 = .ok (.goto (-28), 3)) rfl ?_
      refine jSub [1, 2, 0] rfl ?_
      exact ih (v2 + 1) S8 h
theorem j_X11_back_39 {p : Program} {l : Launch} {e : Env} {s : State} {m : MethodId} {args : Array Value} {below : List Frame} {meth : Method} {c : Code} {b : Nat} {D : va_G} {cy : Nat → ClassId} {G : Gm} {v0 : Nat} {v1 : Int32} {v2 : Int32} {S : St} {Q : Int32 → St → Prop} (C : CX p s m args meth c b D cy cX11_back RX11 3 (some .int)) (hE : s.heap.size + 0 ≤ b + G.2.2) (t_v0 : ok G 10 v0) (h : f_X11_back_39 G v0 v1 Q v2 S) : J p l e rm_X11_back s m args below meth c b D cy 3 (zI b D cy below args s G Q) 0 0 G S 39 [(0, .ref (b + v0)), (1, .int v1), (2, .int v2)] [] := by
  obtain ⟨k, h⟩ := h
  exact j_X11_back_39_n C hE t_v0 k v2 S h
set_option maxHeartbeats 4000000 in
set_option maxRecDepth 100000 in
theorem j_X11_back {p : Program} {l : Launch} {e : Env} {s : State} {m : MethodId} {args : Array Value} {below : List Frame} {meth : Method} {c : Code} {b : Nat} {D : va_G} {cy : Nat → ClassId} {G : Gm} {v0 : Nat} {v1 : Int32} {S : St} {Q : Int32 → St → Prop} (C : CX p s m args meth c b D cy cX11_back RX11 3 (some .int)) (hE : s.heap.size + 0 ≤ b + G.2.2) (t_v0 : ok G 10 v0) (h : f_X11_back G v0 v1 Q S) : J p l e rm_X11_back s m args below meth c b D cy 3 (zI b D cy below args s G Q) 0 0 G S 0 [(0, .ref (b + v0)), (1, .int v1)] [] := by
  unfold f_X11_back at h
  refine jB C [(.aload_n 0, 1, 0), (.iconst 0, 1, 0)] 2 [(0, .ref (b + v0)), (1, .int v1)] [.int 0, .ref (b + v0)] (by decide +kernel) rfl rfl ?_
  refine jPutI C 5 (by decide +kernel : decode cX11_back 2 = .ok (.putfield 165, 3)) rfl hE t_v0 kX11 0 (by decide) rfl rfl (by decide) rfl wd_1154 rfl rfl rfl ?_
  refine jTopS (fun S1 e_S1 => ?_)
  have h := h S1 e_S1
  refine jB C [(.iload_n 1, 1, 0), (.i2l, 1, 0), (.lconst 0, 1, 0), (.lconst 1, 1, 0)] 9 [(0, .ref (b + v0)), (1, .int v1)] [.long 1, .long 0, .long v1.toInt64] (by decide +kernel) rfl rfl ?_
  refine jcS_I C 12 (rest := []) (ok_X11_in h) (by decide +kernel : decode cX11_back 9 = .ok (.invokestatic 185, 3)) rfl wd_1352 wd_1353 wd_12 wd_1354 ⟨rfl, rfl⟩ hd_X11_in ⟨Nat.le_of_ble_eq_true rfl, Nat.le_of_ble_eq_true rfl⟩ rfl rfl (Nat.le_of_ble_eq_true rfl) ⟨Nat.zero_le _, Nat.zero_le _⟩ (fun r3 S2 h => ?_)
  refine jIf_ne C 15 21 (by decide +kernel : decode cX11_back 12 = .ok (.ifCond .ne 9, 3)) rfl rfl (fun c4 => ?_) (fun c4 => ?_)
  · have h := it2 h c4
    refine jB C [(.aload_n 0, 1, 0)] 22 [(0, .ref (b + v0)), (1, .int v1)] [.ref (b + v0)] (by decide +kernel) rfl rfl ?_
    obtain ⟨a5, e_a5, h⟩ := h
    refine jGetR C 25 (by decide +kernel : decode cX11_back 22 = .ok (.getfield 22, 3)) rfl t_v0 kX11 6 (by decide) rfl rfl (by decide) wd_1160 e_a5 rfl (fun t_a5 => ?_)
    refine jB C [(.iload_n 1, 1, 0)] 26 [(0, .ref (b + v0)), (1, .int v1)] [.int v1, .ref (b + a5)] (by decide +kernel) rfl rfl ?_
    obtain ⟨y6, h⟩ := h
    refine jZald C 27 (by decide +kernel : decode cX11_back 26 = .ok (.baload, 1)) rfl t_a5 y6 ?_
    refine jIf_ne C 30 37 (by decide +kernel : decode cX11_back 27 = .ok (.ifCond .ne 10, 3)) rfl rfl (fun c7 => ?_) (fun c7 => ?_)
    · have h := it2 h c7
      refine jB C [(.iconst 0, 1, 0), (.istore_n 2, 1, 0)] 39 [(2, .int 0), (0, .ref (b + v0)), (1, .int v1)] [] (by decide +kernel) rfl rfl ?_
      refine jSub [1, 2, 0] rfl ?_
      exact j_X11_back_39 C hE t_v0 h
    · have h := it1 h c7
      refine jB C [(.aload_n 0, 1, 0), (.bipush (-2), 2, (-2))] 33 [(0, .ref (b + v0)), (1, .int v1)] [.int (-2), .ref (b + v0)] (by decide +kernel) rfl rfl ?_
      refine jcV_I C 36 (rest := []) (ok_X11_tell t_v0 h) (by decide +kernel : decode cX11_back 33 = .ok (.invokevirtual 174, 3)) rfl wd_1340 wd_1342 wp_99 wd_12 wd_1343 ⟨rfl, rfl⟩ hd_X11_tell ⟨Nat.le_of_ble_eq_true rfl, Nat.le_of_ble_eq_true rfl⟩ t_v0 kX11 (by decide) rfl rfl rfl (Nat.le_of_ble_eq_true rfl) ⟨Nat.zero_le _, Nat.zero_le _⟩ (fun r9 S8 h => ?_)
      exact jRetI C (by decide +kernel : decode cX11_back 36 = .ok (.ireturn, 1)) (Nat.le_refl _) (Nat.le_refl _) ⟨rfl, h⟩
  · have h := it1 h c4
    refine jB C [(.aload_n 0, 1, 0), (.iconst (-1), 1, (-1))] 17 [(0, .ref (b + v0)), (1, .int v1)] [.int (-1), .ref (b + v0)] (by decide +kernel) rfl rfl ?_
    refine jcV_I C 20 (rest := []) (ok_X11_tell t_v0 h) (by decide +kernel : decode cX11_back 17 = .ok (.invokevirtual 174, 3)) rfl wd_1340 wd_1342 wp_99 wd_12 wd_1343 ⟨rfl, rfl⟩ hd_X11_tell ⟨Nat.le_of_ble_eq_true rfl, Nat.le_of_ble_eq_true rfl⟩ t_v0 kX11 (by decide) rfl rfl rfl (Nat.le_of_ble_eq_true rfl) ⟨Nat.zero_le _, Nat.zero_le _⟩ (fun r11 S10 h => ?_)
    exact jRetI C (by decide +kernel : decode cX11_back 20 = .ok (.ireturn, 1)) (Nat.le_refl _) (Nat.le_refl _) ⟨rfl, h⟩
theorem ok_X11_back {G : Gm} {v0 : Nat} {v1 : Int32} {S : St} {Q : Int32 → St → Prop}  (t_v0 : ok G 10 v0) (h : f_X11_back G v0 v1 Q S) : MT yX11_back cX11_back 3 (some .int) rm_X11_back 0 0 (fun b => [.ref (b + v0), .int v1]) G S (QI (fun r G1 S1 => G1 = G ∧ Q r S1)) := MT.ofJ (by decide +kernel) (fun b => [(0, .ref (b + v0)), (1, .int v1)]) (fun b => rfl) (fun b => Nat.le_of_ble_eq_true rfl) (fun l b D cy p e s m below meth c C hE hn => j_X11_back C hE t_v0 h)
theorem hd_X11_back : yX11_back.cls ≠ "java/lang/invoke/MethodHandle" ∧ yX11_back.cls ≠ "java/lang/invoke/VarHandle" ∧ (parseMethodDescriptor yX11_back.desc).map (fun d => d.parameters.length) = some 1 := by decide +kernel
abbrev rm_X11_isSmall : Room := { frames := 0, cells := 0, slots := 0, locals := 0 }
set_option maxHeartbeats 4000000 in
set_option maxRecDepth 100000 in
theorem j_X11_isSmall {p : Program} {l : Launch} {e : Env} {s : State} {m : MethodId} {args : Array Value} {below : List Frame} {meth : Method} {c : Code} {b : Nat} {D : va_G} {cy : Nat → ClassId} {G : Gm} {v0 : Int32} {S : St} {Q : Int32 → St → Prop} (C : CX p s m args meth c b D cy cX11_isSmall RX11 1 (some .boolean)) (hE : s.heap.size + 0 ≤ b + G.2.2) (h : f_X11_isSmall G v0 Q S) : J p l e rm_X11_isSmall s m args below meth c b D cy 1 (zI b D cy below args s G Q) 0 0 G S 0 [(0, .int v0)] [] := by
  unfold f_X11_isSmall at h
  refine jB C [(.iload_n 0, 1, 0), (.bipush 97, 2, 97)] 3 [(0, .int v0)] [.int 97, .int v0] (by decide +kernel) rfl rfl ?_
  refine jIcmp_lt C 6 16 (by decide +kernel : decode cX11_isSmall 3 = .ok (.if_icmp .lt 13, 3)) rfl rfl (fun c1 => ?_) (fun c1 => ?_)
  · have h := it1 h c1
    refine jB C [(.iconst 0, 1, 0)] 17 [(0, .int v0)] [.int 0] (by decide +kernel) rfl rfl ?_
    exact jRetZ C (by decide +kernel : decode cX11_isSmall 17 = .ok (.ireturn, 1)) (Nat.le_refl _) (Nat.le_refl _) (by decide) ⟨rfl, h⟩
  · have h := it2 h c1
    refine jB C [(.iload_n 0, 1, 0), (.bipush 122, 2, 122)] 9 [(0, .int v0)] [.int 122, .int v0] (by decide +kernel) rfl rfl ?_
    refine jIcmp_gt C 12 16 (by decide +kernel : decode cX11_isSmall 9 = .ok (.if_icmp .gt 7, 3)) rfl rfl (fun c2 => ?_) (fun c2 => ?_)
    · have h := it1 h c2
      refine jB C [(.iconst 0, 1, 0)] 17 [(0, .int v0)] [.int 0] (by decide +kernel) rfl rfl ?_
      exact jRetZ C (by decide +kernel : decode cX11_isSmall 17 = .ok (.ireturn, 1)) (Nat.le_refl _) (Nat.le_refl _) (by decide) ⟨rfl, h⟩
    · have h := it2 h c2
      refine jB C [(.iconst 1, 1, 1)] 13 [(0, .int v0)] [.int 1] (by decide +kernel) rfl rfl ?_
      refine jGoto C 17 (by decide +kernel : decode cX11_isSmall 13 = .ok (.goto 4, 3)) rfl ?_
      exact jRetZ C (by decide +kernel : decode cX11_isSmall 17 = .ok (.ireturn, 1)) (Nat.le_refl _) (Nat.le_refl _) (by decide) ⟨rfl, h⟩
theorem ok_X11_isSmall {G : Gm} {v0 : Int32} {S : St} {Q : Int32 → St → Prop}  (h : f_X11_isSmall G v0 Q S) : MT yX11_isSmall cX11_isSmall 1 (some .boolean) rm_X11_isSmall 0 0 (fun b => [.int v0]) G S (QI (fun r G1 S1 => G1 = G ∧ Q r S1)) := MT.ofJ (by decide +kernel) (fun b => [(0, .int v0)]) (fun b => rfl) (fun b => Nat.le_of_ble_eq_true rfl) (fun l b D cy p e s m below meth c C hE hn => j_X11_isSmall C hE h)
theorem hd_X11_isSmall : yX11_isSmall.cls ≠ "java/lang/invoke/MethodHandle" ∧ yX11_isSmall.cls ≠ "java/lang/invoke/VarHandle" ∧ (parseMethodDescriptor yX11_isSmall.desc).map (fun d => d.parameters.length) = some 1 := by decide +kernel
abbrev rm_X11_isDigit : Room := { frames := 0, cells := 0, slots := 0, locals := 0 }
set_option maxHeartbeats 4000000 in
set_option maxRecDepth 100000 in
theorem j_X11_isDigit {p : Program} {l : Launch} {e : Env} {s : State} {m : MethodId} {args : Array Value} {below : List Frame} {meth : Method} {c : Code} {b : Nat} {D : va_G} {cy : Nat → ClassId} {G : Gm} {v0 : Int32} {S : St} {Q : Int32 → St → Prop} (C : CX p s m args meth c b D cy cX11_isDigit RX11 1 (some .boolean)) (hE : s.heap.size + 0 ≤ b + G.2.2) (h : f_X11_isDigit G v0 Q S) : J p l e rm_X11_isDigit s m args below meth c b D cy 1 (zI b D cy below args s G Q) 0 0 G S 0 [(0, .int v0)] [] := by
  unfold f_X11_isDigit at h
  refine jB C [(.iload_n 0, 1, 0), (.bipush 48, 2, 48)] 3 [(0, .int v0)] [.int 48, .int v0] (by decide +kernel) rfl rfl ?_
  refine jIcmp_lt C 6 16 (by decide +kernel : decode cX11_isDigit 3 = .ok (.if_icmp .lt 13, 3)) rfl rfl (fun c1 => ?_) (fun c1 => ?_)
  · have h := it1 h c1
    refine jB C [(.iconst 0, 1, 0)] 17 [(0, .int v0)] [.int 0] (by decide +kernel) rfl rfl ?_
    exact jRetZ C (by decide +kernel : decode cX11_isDigit 17 = .ok (.ireturn, 1)) (Nat.le_refl _) (Nat.le_refl _) (by decide) ⟨rfl, h⟩
  · have h := it2 h c1
    refine jB C [(.iload_n 0, 1, 0), (.bipush 57, 2, 57)] 9 [(0, .int v0)] [.int 57, .int v0] (by decide +kernel) rfl rfl ?_
    refine jIcmp_gt C 12 16 (by decide +kernel : decode cX11_isDigit 9 = .ok (.if_icmp .gt 7, 3)) rfl rfl (fun c2 => ?_) (fun c2 => ?_)
    · have h := it1 h c2
      refine jB C [(.iconst 0, 1, 0)] 17 [(0, .int v0)] [.int 0] (by decide +kernel) rfl rfl ?_
      exact jRetZ C (by decide +kernel : decode cX11_isDigit 17 = .ok (.ireturn, 1)) (Nat.le_refl _) (Nat.le_refl _) (by decide) ⟨rfl, h⟩
    · have h := it2 h c2
      refine jB C [(.iconst 1, 1, 1)] 13 [(0, .int v0)] [.int 1] (by decide +kernel) rfl rfl ?_
      refine jGoto C 17 (by decide +kernel : decode cX11_isDigit 13 = .ok (.goto 4, 3)) rfl ?_
      exact jRetZ C (by decide +kernel : decode cX11_isDigit 17 = .ok (.ireturn, 1)) (Nat.le_refl _) (Nat.le_refl _) (by decide) ⟨rfl, h⟩
theorem ok_X11_isDigit {G : Gm} {v0 : Int32} {S : St} {Q : Int32 → St → Prop}  (h : f_X11_isDigit G v0 Q S) : MT yX11_isDigit cX11_isDigit 1 (some .boolean) rm_X11_isDigit 0 0 (fun b => [.int v0]) G S (QI (fun r G1 S1 => G1 = G ∧ Q r S1)) := MT.ofJ (by decide +kernel) (fun b => [(0, .int v0)]) (fun b => rfl) (fun b => Nat.le_of_ble_eq_true rfl) (fun l b D cy p e s m below meth c C hE hn => j_X11_isDigit C hE h)
theorem hd_X11_isDigit : yX11_isDigit.cls ≠ "java/lang/invoke/MethodHandle" ∧ yX11_isDigit.cls ≠ "java/lang/invoke/VarHandle" ∧ (parseMethodDescriptor yX11_isDigit.desc).map (fun d => d.parameters.length) = some 1 := by decide +kernel
abbrev rm_X11_next : Room := { frames := 1, cells := 0, slots := 0, locals := 20 }
set_option maxHeartbeats 4000000 in
set_option maxRecDepth 100000 in
theorem j_X11_next_319 {p : Program} {l : Launch} {e : Env} {s : State} {m : MethodId} {args : Array Value} {below : List Frame} {meth : Method} {c : Code} {b : Nat} {D : va_G} {cy : Nat → ClassId} {G : Gm} {k243 : St → Prop} {v0 : Nat} {u0 : Int64} {u1 : Nat} {S : St} {Q : St → Prop} (C : CX p s m args meth c b D cy cX11_next RX11 1 none) (hE : s.heap.size + 0 ≤ b + G.2.2) (t_v0 : ok G 10 v0) (t_u1 : ok G 10 u1) (hk243 : ∀ S, k243 S → J p l e rm_X11_next s m args below meth c b D cy 1 (zV b D cy below args s G Q) 0 0 G S 243 [(0, .ref (b + v0))] []) (h : f_X11_next_319 G k243 v0 u0 u1 Q S) : J p l e rm_X11_next s m args below meth c b D cy 1 (zV b D cy below args s G Q) 0 0 G S 319 [(0, .ref (b + v0))] [.long u0, .ref (b + u1)] := by
  unfold f_X11_next_319 at h
  refine jPutJ C 322 (by decide +kernel : decode cX11_next 319 = .ok (.putfield 281, 3)) rfl hE t_u1 kX11 18 (by decide) rfl rfl (by decide) rfl wd_1172 rfl rfl rfl ?_
  refine jTopS (fun S1 e_S1 => ?_)
  have h := h S1 e_S1
  refine jB C [(.aload_n 0, 1, 0), (.dup, 1, 0)] 324 [(0, .ref (b + v0))] [.ref (b + v0), .ref (b + v0)] (by decide +kernel) rfl rfl ?_
  refine jGetI C 327 (by decide +kernel : decode cX11_next 324 = .ok (.getfield 268, 3)) rfl t_v0 kX11 16 (by decide) rfl rfl (by decide) wd_1170 ?_
  refine jB C [(.iconst 1, 1, 1), (.iadd, 1, 0)] 329 [(0, .ref (b + v0))] [.int ((S1.1 v0 16) + 1), .ref (b + v0)] (by decide +kernel) rfl rfl ?_
  refine jPutI C 332 (by decide +kernel : decode cX11_next 329 = .ok (.putfield 268, 3)) rfl hE t_v0 kX11 16 (by decide) rfl rfl (by decide) rfl wd_1170 rfl rfl rfl ?_
  refine jTopS (fun S2 e_S2 => ?_)
  have h := h S2 e_S2
  refine jGoto C 243 (by decide +kernel : decode cX11_next 332 = .ok (.goto (-89), 3)) rfl ?_
  refine jSub [0] rfl ?_
  exact hk243 S2 h
set_option maxHeartbeats 4000000 in
set_option maxRecDepth 100000 in
theorem j_X11_next_243_n {p : Program} {l : Launch} {e : Env} {s : State} {m : MethodId} {args : Array Value} {below : List Frame} {meth : Method} {c : Code} {b : Nat} {D : va_G} {cy : Nat → ClassId} {G : Gm} {v0 : Nat} {Q : St → Prop} (C : CX p s m args meth c b D cy cX11_next RX11 1 none) (hE : s.heap.size + 0 ≤ b + G.2.2) (t_v0 : ok G 10 v0) : ∀ k S, f_X11_next_243_n G v0 Q k S → J p l e rm_X11_next s m args below meth c b D cy 1 (zV b D cy below args s G Q) 0 0 G S 243 [(0, .ref (b + v0))] [] := by
  intro k
  induction k with
  | zero => intro S h; exact h.elim
  | succ k ih =>
    intro S h
    unfold f_X11_next_243_n at h
    refine jB C [(.aload_n 0, 1, 0)] 244 [(0, .ref (b + v0))] [.ref (b + v0)] (by decide +kernel) rfl rfl ?_
    refine jGetI C 247 (by decide +kernel : decode cX11_next 244 = .ok (.getfield 291, 3)) rfl t_v0 kX11 17 (by decide) rfl rfl (by decide) wd_1171 ?_
    refine jB C [(.iconst 2, 1, 2)] 248 [(0, .ref (b + v0))] [.int 2, .int (S.1 v0 17)] (by decide +kernel) rfl rfl ?_
    refine jIcmp_ne C 251 335 (by decide +kernel : decode cX11_next 248 = .ok (.if_icmp .ne 87, 3)) rfl rfl (fun c1 => ?_) (fun c1 => ?_)
    · have h := it2 h c1
      exact jRetV C (by decide +kernel : decode cX11_next 335 = .ok (.return_, 1)) (Nat.le_refl _) (Nat.le_refl _) ⟨rfl, h⟩
    · have h := it1 h c1
      refine jB C [(.aload_n 0, 1, 0)] 252 [(0, .ref (b + v0))] [.ref (b + v0)] (by decide +kernel) rfl rfl ?_
      refine jGetI C 255 (by decide +kernel : decode cX11_next 252 = .ok (.getfield 268, 3)) rfl t_v0 kX11 16 (by decide) rfl rfl (by decide) wd_1170 ?_
      refine jB C [(.aload_n 0, 1, 0)] 256 [(0, .ref (b + v0))] [.ref (b + v0), .int (S.1 v0 16)] (by decide +kernel) rfl rfl ?_
      refine jGetI C 259 (by decide +kernel : decode cX11_next 256 = .ok (.getfield 259, 3)) rfl t_v0 kX11 14 (by decide) rfl rfl (by decide) wd_1168 ?_
      refine jIcmp_ge C 262 335 (by decide +kernel : decode cX11_next 259 = .ok (.if_icmp .ge 76, 3)) rfl rfl (fun c2 => ?_) (fun c2 => ?_)
      · have h := it1 h c2
        exact jRetV C (by decide +kernel : decode cX11_next 335 = .ok (.return_, 1)) (Nat.le_refl _) (Nat.le_refl _) ⟨rfl, h⟩
      · have h := it2 h c2
        refine jB C [(.aload_n 0, 1, 0)] 263 [(0, .ref (b + v0))] [.ref (b + v0)] (by decide +kernel) rfl rfl ?_
        obtain ⟨a3, e_a3, h⟩ := h
        refine jGetR C 266 (by decide +kernel : decode cX11_next 263 = .ok (.getfield 38, 3)) rfl t_v0 kX11 13 (by decide) rfl rfl (by decide) wd_1167 e_a3 rfl (fun t_a3 => ?_)
        refine jB C [(.aload_n 0, 1, 0)] 267 [(0, .ref (b + v0))] [.ref (b + v0), .ref (b + a3)] (by decide +kernel) rfl rfl ?_
        refine jGetI C 270 (by decide +kernel : decode cX11_next 267 = .ok (.getfield 268, 3)) rfl t_v0 kX11 16 (by decide) rfl rfl (by decide) wd_1170 ?_
        obtain ⟨y4, h⟩ := h
        refine jIald C 271 (by decide +kernel : decode cX11_next 270 = .ok (.iaload, 1)) rfl t_a3 y4 ?_
        refine jcS_I C 274 (rest := []) (ok_X11_isDigit h) (by decide +kernel : decode cX11_next 271 = .ok (.invokestatic 288, 3)) rfl wd_1531 wd_1532 wd_12 wd_1533 ⟨rfl, rfl⟩ hd_X11_isDigit ⟨Nat.le_of_ble_eq_true rfl, Nat.le_of_ble_eq_true rfl⟩ rfl rfl (Nat.le_of_ble_eq_true rfl) ⟨Nat.zero_le _, Nat.zero_le _⟩ (fun r6 S5 h => ?_)
        refine jIf_eq C 277 335 (by decide +kernel : decode cX11_next 274 = .ok (.ifCond .eq 61, 3)) rfl rfl (fun c7 => ?_) (fun c7 => ?_)
        · have h := it1 h c7
          exact jRetV C (by decide +kernel : decode cX11_next 335 = .ok (.return_, 1)) (Nat.le_refl _) (Nat.le_refl _) ⟨rfl, h⟩
        · have h := it2 h c7
          refine jB C [(.aload_n 0, 1, 0), (.aload_n 0, 1, 0)] 279 [(0, .ref (b + v0))] [.ref (b + v0), .ref (b + v0)] (by decide +kernel) rfl rfl ?_
          refine jGetJ C 282 (by decide +kernel : decode cX11_next 279 = .ok (.getfield 281, 3)) rfl t_v0 kX11 18 (by decide) rfl rfl (by decide) wd_1172 ?_
          refine jLdc2 C 285 (by decide +kernel : decode cX11_next 282 = .ok (.ldc2_w 300, 3)) rfl wd_1536 ?_
          refine jB C [(.lcmp, 1, 0)] 286 [(0, .ref (b + v0))] [.int (lg_cmp (S5.2.1 v0 18) 1000000), .ref (b + v0)] (by decide +kernel) rfl rfl ?_
          refine jIf_le C 289 296 (by decide +kernel : decode cX11_next 286 = .ok (.ifCond .le 10, 3)) rfl rfl (fun c8 => ?_) (fun c8 => ?_)
          · have h := it1 h c8
            refine jB C [(.aload_n 0, 1, 0)] 297 [(0, .ref (b + v0))] [.ref (b + v0), .ref (b + v0)] (by decide +kernel) rfl rfl ?_
            refine jGetJ C 300 (by decide +kernel : decode cX11_next 297 = .ok (.getfield 281, 3)) rfl t_v0 kX11 18 (by decide) rfl rfl (by decide) wd_1172 ?_
            refine jLdc2 C 303 (by decide +kernel : decode cX11_next 300 = .ok (.ldc2_w 252, 3)) rfl wd_1486 ?_
            refine jB C [(.lmul, 1, 0), (.aload_n 0, 1, 0)] 305 [(0, .ref (b + v0))] [.ref (b + v0), .long ((S5.2.1 v0 18) * 10), .ref (b + v0)] (by decide +kernel) rfl rfl ?_
            obtain ⟨a9, e_a9, h⟩ := h
            refine jGetR C 308 (by decide +kernel : decode cX11_next 305 = .ok (.getfield 38, 3)) rfl t_v0 kX11 13 (by decide) rfl rfl (by decide) wd_1167 e_a9 rfl (fun t_a9 => ?_)
            refine jB C [(.aload_n 0, 1, 0)] 309 [(0, .ref (b + v0))] [.ref (b + v0), .ref (b + a9), .long ((S5.2.1 v0 18) * 10), .ref (b + v0)] (by decide +kernel) rfl rfl ?_
            refine jGetI C 312 (by decide +kernel : decode cX11_next 309 = .ok (.getfield 268, 3)) rfl t_v0 kX11 16 (by decide) rfl rfl (by decide) wd_1170 ?_
            obtain ⟨y10, h⟩ := h
            refine jIald C 313 (by decide +kernel : decode cX11_next 312 = .ok (.iaload, 1)) rfl t_a9 y10 ?_
            refine jB C [(.i2l, 1, 0), (.ladd, 1, 0)] 315 [(0, .ref (b + v0))] [.long (((S5.2.1 v0 18) * 10) + ((S5.1 a9 (S5.1 v0 16).toNatClampNeg).toInt64)), .ref (b + v0)] (by decide +kernel) rfl rfl ?_
            refine jLdc2 C 318 (by decide +kernel : decode cX11_next 315 = .ok (.ldc2_w 302, 3)) rfl wd_1537 ?_
            refine jB C [(.lsub, 1, 0)] 319 [(0, .ref (b + v0))] [.long ((((S5.2.1 v0 18) * 10) + ((S5.1 a9 (S5.1 v0 16).toNatClampNeg).toInt64)) - 48), .ref (b + v0)] (by decide +kernel) rfl rfl ?_
            refine jSub [0] rfl ?_
            exact j_X11_next_319 C hE t_v0 t_v0 ih h
          · have h := it2 h c8
            refine jB C [(.aload_n 0, 1, 0)] 290 [(0, .ref (b + v0))] [.ref (b + v0), .ref (b + v0)] (by decide +kernel) rfl rfl ?_
            refine jGetJ C 293 (by decide +kernel : decode cX11_next 290 = .ok (.getfield 281, 3)) rfl t_v0 kX11 18 (by decide) rfl rfl (by decide) wd_1172 ?_
            refine jGoto C 319 (by decide +kernel : decode cX11_next 293 = .ok (.goto 26, 3)) rfl ?_
            refine jSub [0] rfl ?_
            exact j_X11_next_319 C hE t_v0 t_v0 ih h
theorem j_X11_next_243 {p : Program} {l : Launch} {e : Env} {s : State} {m : MethodId} {args : Array Value} {below : List Frame} {meth : Method} {c : Code} {b : Nat} {D : va_G} {cy : Nat → ClassId} {G : Gm} {v0 : Nat} {S : St} {Q : St → Prop} (C : CX p s m args meth c b D cy cX11_next RX11 1 none) (hE : s.heap.size + 0 ≤ b + G.2.2) (t_v0 : ok G 10 v0) (h : f_X11_next_243 G v0 Q S) : J p l e rm_X11_next s m args below meth c b D cy 1 (zV b D cy below args s G Q) 0 0 G S 243 [(0, .ref (b + v0))] [] := by
  obtain ⟨k, h⟩ := h
  exact j_X11_next_243_n C hE t_v0 k S h
set_option maxHeartbeats 4000000 in
set_option maxRecDepth 100000 in
theorem j_X11_next_227 {p : Program} {l : Launch} {e : Env} {s : State} {m : MethodId} {args : Array Value} {below : List Frame} {meth : Method} {c : Code} {b : Nat} {D : va_G} {cy : Nat → ClassId} {G : Gm} {k149 : St → Prop} {v0 : Nat} {u0 : Int64} {u1 : Nat} {S : St} {Q : St → Prop} (C : CX p s m args meth c b D cy cX11_next RX11 1 none) (hE : s.heap.size + 0 ≤ b + G.2.2) (t_v0 : ok G 10 v0) (t_u1 : ok G 10 u1) (hk149 : ∀ S, k149 S → J p l e rm_X11_next s m args below meth c b D cy 1 (zV b D cy below args s G Q) 0 0 G S 149 [(0, .ref (b + v0))] []) (h : f_X11_next_227 G k149 v0 u0 u1 Q S) : J p l e rm_X11_next s m args below meth c b D cy 1 (zV b D cy below args s G Q) 0 0 G S 227 [(0, .ref (b + v0))] [.long u0, .ref (b + u1)] := by
  unfold f_X11_next_227 at h
  refine jPutJ C 230 (by decide +kernel : decode cX11_next 227 = .ok (.putfield 281, 3)) rfl hE t_u1 kX11 18 (by decide) rfl rfl (by decide) rfl wd_1172 rfl rfl rfl ?_
  refine jTopS (fun S1 e_S1 => ?_)
  have h := h S1 e_S1
  refine jB C [(.aload_n 0, 1, 0), (.dup, 1, 0)] 232 [(0, .ref (b + v0))] [.ref (b + v0), .ref (b + v0)] (by decide +kernel) rfl rfl ?_
  refine jGetI C 235 (by decide +kernel : decode cX11_next 232 = .ok (.getfield 268, 3)) rfl t_v0 kX11 16 (by decide) rfl rfl (by decide) wd_1170 ?_
  refine jB C [(.iconst 1, 1, 1), (.iadd, 1, 0)] 237 [(0, .ref (b + v0))] [.int ((S1.1 v0 16) + 1), .ref (b + v0)] (by decide +kernel) rfl rfl ?_
  refine jPutI C 240 (by decide +kernel : decode cX11_next 237 = .ok (.putfield 268, 3)) rfl hE t_v0 kX11 16 (by decide) rfl rfl (by decide) rfl wd_1170 rfl rfl rfl ?_
  refine jTopS (fun S2 e_S2 => ?_)
  have h := h S2 e_S2
  refine jGoto C 149 (by decide +kernel : decode cX11_next 240 = .ok (.goto (-91), 3)) rfl ?_
  refine jSub [0] rfl ?_
  exact hk149 S2 h
set_option maxHeartbeats 4000000 in
set_option maxRecDepth 100000 in
theorem j_X11_next_149_n {p : Program} {l : Launch} {e : Env} {s : State} {m : MethodId} {args : Array Value} {below : List Frame} {meth : Method} {c : Code} {b : Nat} {D : va_G} {cy : Nat → ClassId} {G : Gm} {v0 : Nat} {Q : St → Prop} (C : CX p s m args meth c b D cy cX11_next RX11 1 none) (hE : s.heap.size + 0 ≤ b + G.2.2) (t_v0 : ok G 10 v0) : ∀ k S, f_X11_next_149_n G v0 Q k S → J p l e rm_X11_next s m args below meth c b D cy 1 (zV b D cy below args s G Q) 0 0 G S 149 [(0, .ref (b + v0))] [] := by
  intro k
  induction k with
  | zero => intro S h; exact h.elim
  | succ k ih =>
    intro S h
    unfold f_X11_next_149_n at h
    refine jB C [(.aload_n 0, 1, 0)] 150 [(0, .ref (b + v0))] [.ref (b + v0)] (by decide +kernel) rfl rfl ?_
    refine jGetI C 153 (by decide +kernel : decode cX11_next 150 = .ok (.getfield 291, 3)) rfl t_v0 kX11 17 (by decide) rfl rfl (by decide) wd_1171 ?_
    refine jB C [(.iconst 1, 1, 1)] 154 [(0, .ref (b + v0))] [.int 1, .int (S.1 v0 17)] (by decide +kernel) rfl rfl ?_
    refine jIcmp_ne C 157 243 (by decide +kernel : decode cX11_next 154 = .ok (.if_icmp .ne 89, 3)) rfl rfl (fun c1 => ?_) (fun c1 => ?_)
    · have h := it2 h c1
      refine jSub [0] rfl ?_
      exact j_X11_next_243 C hE t_v0 h
    · have h := it1 h c1
      refine jB C [(.aload_n 0, 1, 0)] 158 [(0, .ref (b + v0))] [.ref (b + v0)] (by decide +kernel) rfl rfl ?_
      refine jGetI C 161 (by decide +kernel : decode cX11_next 158 = .ok (.getfield 268, 3)) rfl t_v0 kX11 16 (by decide) rfl rfl (by decide) wd_1170 ?_
      refine jB C [(.aload_n 0, 1, 0)] 162 [(0, .ref (b + v0))] [.ref (b + v0), .int (S.1 v0 16)] (by decide +kernel) rfl rfl ?_
      refine jGetI C 165 (by decide +kernel : decode cX11_next 162 = .ok (.getfield 259, 3)) rfl t_v0 kX11 14 (by decide) rfl rfl (by decide) wd_1168 ?_
      refine jIcmp_ge C 168 243 (by decide +kernel : decode cX11_next 165 = .ok (.if_icmp .ge 78, 3)) rfl rfl (fun c2 => ?_) (fun c2 => ?_)
      · have h := it1 h c2
        refine jSub [0] rfl ?_
        exact j_X11_next_243 C hE t_v0 h
      · have h := it2 h c2
        refine jB C [(.aload_n 0, 1, 0)] 169 [(0, .ref (b + v0))] [.ref (b + v0)] (by decide +kernel) rfl rfl ?_
        obtain ⟨a3, e_a3, h⟩ := h
        refine jGetR C 172 (by decide +kernel : decode cX11_next 169 = .ok (.getfield 38, 3)) rfl t_v0 kX11 13 (by decide) rfl rfl (by decide) wd_1167 e_a3 rfl (fun t_a3 => ?_)
        refine jB C [(.aload_n 0, 1, 0)] 173 [(0, .ref (b + v0))] [.ref (b + v0), .ref (b + a3)] (by decide +kernel) rfl rfl ?_
        refine jGetI C 176 (by decide +kernel : decode cX11_next 173 = .ok (.getfield 268, 3)) rfl t_v0 kX11 16 (by decide) rfl rfl (by decide) wd_1170 ?_
        obtain ⟨y4, h⟩ := h
        refine jIald C 177 (by decide +kernel : decode cX11_next 176 = .ok (.iaload, 1)) rfl t_a3 y4 ?_
        refine jcS_I C 180 (rest := []) (ok_X11_isSmall h) (by decide +kernel : decode cX11_next 177 = .ok (.invokestatic 285, 3)) rfl wd_1528 wd_1529 wd_12 wd_1530 ⟨rfl, rfl⟩ hd_X11_isSmall ⟨Nat.le_of_ble_eq_true rfl, Nat.le_of_ble_eq_true rfl⟩ rfl rfl (Nat.le_of_ble_eq_true rfl) ⟨Nat.zero_le _, Nat.zero_le _⟩ (fun r6 S5 h => ?_)
        refine jIf_eq C 183 243 (by decide +kernel : decode cX11_next 180 = .ok (.ifCond .eq 63, 3)) rfl rfl (fun c7 => ?_) (fun c7 => ?_)
        · have h := it1 h c7
          refine jSub [0] rfl ?_
          exact j_X11_next_243 C hE t_v0 h
        · have h := it2 h c7
          refine jB C [(.aload_n 0, 1, 0), (.aload_n 0, 1, 0)] 185 [(0, .ref (b + v0))] [.ref (b + v0), .ref (b + v0)] (by decide +kernel) rfl rfl ?_
          refine jGetI C 188 (by decide +kernel : decode cX11_next 185 = .ok (.getfield 268, 3)) rfl t_v0 kX11 16 (by decide) rfl rfl (by decide) wd_1170 ?_
          refine jB C [(.aload_n 0, 1, 0)] 189 [(0, .ref (b + v0))] [.ref (b + v0), .int (S5.1 v0 16), .ref (b + v0)] (by decide +kernel) rfl rfl ?_
          refine jGetI C 192 (by decide +kernel : decode cX11_next 189 = .ok (.getfield 278, 3)) rfl t_v0 kX11 15 (by decide) rfl rfl (by decide) wd_1169 ?_
          refine jB C [(.isub, 1, 0), (.bipush 10, 2, 10)] 195 [(0, .ref (b + v0))] [.int 10, .int ((S5.1 v0 16) - (S5.1 v0 15)), .ref (b + v0)] (by decide +kernel) rfl rfl ?_
          refine jIcmp_ge C 198 224 (by decide +kernel : decode cX11_next 195 = .ok (.if_icmp .ge 29, 3)) rfl rfl (fun c8 => ?_) (fun c8 => ?_)
          · have h := it1 h c8
            refine jLdc2 C 227 (by decide +kernel : decode cX11_next 224 = .ok (.ldc2_w 298, 3)) rfl wd_1405 ?_
            refine jSub [0] rfl ?_
            exact j_X11_next_227 C hE t_v0 t_v0 ih h
          · have h := it2 h c8
            refine jB C [(.aload_n 0, 1, 0)] 199 [(0, .ref (b + v0))] [.ref (b + v0), .ref (b + v0)] (by decide +kernel) rfl rfl ?_
            refine jGetJ C 202 (by decide +kernel : decode cX11_next 199 = .ok (.getfield 281, 3)) rfl t_v0 kX11 18 (by decide) rfl rfl (by decide) wd_1172 ?_
            refine jLdc2 C 205 (by decide +kernel : decode cX11_next 202 = .ok (.ldc2_w 294, 3)) rfl wd_1534 ?_
            refine jB C [(.lmul, 1, 0), (.aload_n 0, 1, 0)] 207 [(0, .ref (b + v0))] [.ref (b + v0), .long ((S5.2.1 v0 18) * 32), .ref (b + v0)] (by decide +kernel) rfl rfl ?_
            obtain ⟨a9, e_a9, h⟩ := h
            refine jGetR C 210 (by decide +kernel : decode cX11_next 207 = .ok (.getfield 38, 3)) rfl t_v0 kX11 13 (by decide) rfl rfl (by decide) wd_1167 e_a9 rfl (fun t_a9 => ?_)
            refine jB C [(.aload_n 0, 1, 0)] 211 [(0, .ref (b + v0))] [.ref (b + v0), .ref (b + a9), .long ((S5.2.1 v0 18) * 32), .ref (b + v0)] (by decide +kernel) rfl rfl ?_
            refine jGetI C 214 (by decide +kernel : decode cX11_next 211 = .ok (.getfield 268, 3)) rfl t_v0 kX11 16 (by decide) rfl rfl (by decide) wd_1170 ?_
            obtain ⟨y10, h⟩ := h
            refine jIald C 215 (by decide +kernel : decode cX11_next 214 = .ok (.iaload, 1)) rfl t_a9 y10 ?_
            refine jB C [(.i2l, 1, 0), (.ladd, 1, 0)] 217 [(0, .ref (b + v0))] [.long (((S5.2.1 v0 18) * 32) + ((S5.1 a9 (S5.1 v0 16).toNatClampNeg).toInt64)), .ref (b + v0)] (by decide +kernel) rfl rfl ?_
            refine jLdc2 C 220 (by decide +kernel : decode cX11_next 217 = .ok (.ldc2_w 296, 3)) rfl wd_1535 ?_
            refine jB C [(.lsub, 1, 0)] 221 [(0, .ref (b + v0))] [.long ((((S5.2.1 v0 18) * 32) + ((S5.1 a9 (S5.1 v0 16).toNatClampNeg).toInt64)) - 96), .ref (b + v0)] (by decide +kernel) rfl rfl ?_
            refine jGoto C 227 (by decide +kernel : decode cX11_next 221 = .ok (.goto 6, 3)) rfl ?_
            refine jSub [0] rfl ?_
            exact j_X11_next_227 C hE t_v0 t_v0 ih h
theorem j_X11_next_149 {p : Program} {l : Launch} {e : Env} {s : State} {m : MethodId} {args : Array Value} {below : List Frame} {meth : Method} {c : Code} {b : Nat} {D : va_G} {cy : Nat → ClassId} {G : Gm} {v0 : Nat} {S : St} {Q : St → Prop} (C : CX p s m args meth c b D cy cX11_next RX11 1 none) (hE : s.heap.size + 0 ≤ b + G.2.2) (t_v0 : ok G 10 v0) (h : f_X11_next_149 G v0 Q S) : J p l e rm_X11_next s m args below meth c b D cy 1 (zV b D cy below args s G Q) 0 0 G S 149 [(0, .ref (b + v0))] [] := by
  obtain ⟨k, h⟩ := h
  exact j_X11_next_149_n C hE t_v0 k S h
set_option maxHeartbeats 4000000 in
set_option maxRecDepth 100000 in
theorem j_X11_next_114 {p : Program} {l : Launch} {e : Env} {s : State} {m : MethodId} {args : Array Value} {below : List Frame} {meth : Method} {c : Code} {b : Nat} {D : va_G} {cy : Nat → ClassId} {G : Gm} {v0 : Nat} {u0 : Int32} {u1 : Nat} {S : St} {Q : St → Prop} (C : CX p s m args meth c b D cy cX11_next RX11 1 none) (hE : s.heap.size + 0 ≤ b + G.2.2) (t_v0 : ok G 10 v0) (t_u1 : ok G 10 u1) (h : f_X11_next_114 G v0 u0 u1 Q S) : J p l e rm_X11_next s m args below meth c b D cy 1 (zV b D cy below args s G Q) 0 0 G S 114 [(0, .ref (b + v0))] [.int u0, .ref (b + u1)] := by
  unfold f_X11_next_114 at h
  refine jPutI C 117 (by decide +kernel : decode cX11_next 114 = .ok (.putfield 291, 3)) rfl hE t_u1 kX11 17 (by decide) rfl rfl (by decide) rfl wd_1171 rfl rfl rfl ?_
  refine jTopS (fun S1 e_S1 => ?_)
  have h := h S1 e_S1
  refine jB C [(.aload_n 0, 1, 0)] 118 [(0, .ref (b + v0))] [.ref (b + v0)] (by decide +kernel) rfl rfl ?_
  refine jGetI C 121 (by decide +kernel : decode cX11_next 118 = .ok (.getfield 291, 3)) rfl t_v0 kX11 17 (by decide) rfl rfl (by decide) wd_1171 ?_
  refine jB C [(.iconst 3, 1, 3)] 122 [(0, .ref (b + v0))] [.int 3, .int (S1.1 v0 17)] (by decide +kernel) rfl rfl ?_
  refine jIcmp_ne C 125 149 (by decide +kernel : decode cX11_next 122 = .ok (.if_icmp .ne 27, 3)) rfl rfl (fun c2 => ?_) (fun c2 => ?_)
  · have h := it2 h c2
    refine jSub [0] rfl ?_
    exact j_X11_next_149 C hE t_v0 h
  · have h := it1 h c2
    refine jB C [(.aload_n 0, 1, 0), (.aload_n 0, 1, 0)] 127 [(0, .ref (b + v0))] [.ref (b + v0), .ref (b + v0)] (by decide +kernel) rfl rfl ?_
    obtain ⟨a3, e_a3, h⟩ := h
    refine jGetR C 130 (by decide +kernel : decode cX11_next 127 = .ok (.getfield 38, 3)) rfl t_v0 kX11 13 (by decide) rfl rfl (by decide) wd_1167 e_a3 rfl (fun t_a3 => ?_)
    refine jB C [(.aload_n 0, 1, 0)] 131 [(0, .ref (b + v0))] [.ref (b + v0), .ref (b + a3), .ref (b + v0)] (by decide +kernel) rfl rfl ?_
    refine jGetI C 134 (by decide +kernel : decode cX11_next 131 = .ok (.getfield 278, 3)) rfl t_v0 kX11 15 (by decide) rfl rfl (by decide) wd_1169 ?_
    obtain ⟨y4, h⟩ := h
    refine jIald C 135 (by decide +kernel : decode cX11_next 134 = .ok (.iaload, 1)) rfl t_a3 y4 ?_
    refine jB C [(.i2l, 1, 0)] 136 [(0, .ref (b + v0))] [.long ((S1.1 a3 (S1.1 v0 15).toNatClampNeg).toInt64), .ref (b + v0)] (by decide +kernel) rfl rfl ?_
    refine jPutJ C 139 (by decide +kernel : decode cX11_next 136 = .ok (.putfield 281, 3)) rfl hE t_v0 kX11 18 (by decide) rfl rfl (by decide) rfl wd_1172 rfl rfl rfl ?_
    refine jTopS (fun S5 e_S5 => ?_)
    have h := h S5 e_S5
    refine jB C [(.aload_n 0, 1, 0), (.dup, 1, 0)] 141 [(0, .ref (b + v0))] [.ref (b + v0), .ref (b + v0)] (by decide +kernel) rfl rfl ?_
    refine jGetI C 144 (by decide +kernel : decode cX11_next 141 = .ok (.getfield 268, 3)) rfl t_v0 kX11 16 (by decide) rfl rfl (by decide) wd_1170 ?_
    refine jB C [(.iconst 1, 1, 1), (.iadd, 1, 0)] 146 [(0, .ref (b + v0))] [.int ((S5.1 v0 16) + 1), .ref (b + v0)] (by decide +kernel) rfl rfl ?_
    refine jPutI C 149 (by decide +kernel : decode cX11_next 146 = .ok (.putfield 268, 3)) rfl hE t_v0 kX11 16 (by decide) rfl rfl (by decide) rfl wd_1170 rfl rfl rfl ?_
    refine jTopS (fun S6 e_S6 => ?_)
    have h := h S6 e_S6
    refine jSub [0] rfl ?_
    exact j_X11_next_149 C hE t_v0 h
set_option maxHeartbeats 4000000 in
set_option maxRecDepth 100000 in
theorem j_X11_next_46 {p : Program} {l : Launch} {e : Env} {s : State} {m : MethodId} {args : Array Value} {below : List Frame} {meth : Method} {c : Code} {b : Nat} {D : va_G} {cy : Nat → ClassId} {G : Gm} {v0 : Nat} {S : St} {Q : St → Prop} (C : CX p s m args meth c b D cy cX11_next RX11 1 none) (hE : s.heap.size + 0 ≤ b + G.2.2) (t_v0 : ok G 10 v0) (h : f_X11_next_46 G v0 Q S) : J p l e rm_X11_next s m args below meth c b D cy 1 (zV b D cy below args s G Q) 0 0 G S 46 [(0, .ref (b + v0))] [] := by
  unfold f_X11_next_46 at h
  refine jB C [(.aload_n 0, 1, 0), (.aload_n 0, 1, 0)] 48 [(0, .ref (b + v0))] [.ref (b + v0), .ref (b + v0)] (by decide +kernel) rfl rfl ?_
  refine jGetI C 51 (by decide +kernel : decode cX11_next 48 = .ok (.getfield 278, 3)) rfl t_v0 kX11 15 (by decide) rfl rfl (by decide) wd_1169 ?_
  refine jPutI C 54 (by decide +kernel : decode cX11_next 51 = .ok (.putfield 268, 3)) rfl hE t_v0 kX11 16 (by decide) rfl rfl (by decide) rfl wd_1170 rfl rfl rfl ?_
  refine jTopS (fun S1 e_S1 => ?_)
  have h := h S1 e_S1
  refine jB C [(.aload_n 0, 1, 0), (.lconst 0, 1, 0)] 56 [(0, .ref (b + v0))] [.long 0, .ref (b + v0)] (by decide +kernel) rfl rfl ?_
  refine jPutJ C 59 (by decide +kernel : decode cX11_next 56 = .ok (.putfield 281, 3)) rfl hE t_v0 kX11 18 (by decide) rfl rfl (by decide) rfl wd_1172 rfl rfl rfl ?_
  refine jTopS (fun S2 e_S2 => ?_)
  have h := h S2 e_S2
  refine jB C [(.aload_n 0, 1, 0), (.aload_n 0, 1, 0)] 61 [(0, .ref (b + v0))] [.ref (b + v0), .ref (b + v0)] (by decide +kernel) rfl rfl ?_
  refine jGetI C 64 (by decide +kernel : decode cX11_next 61 = .ok (.getfield 278, 3)) rfl t_v0 kX11 15 (by decide) rfl rfl (by decide) wd_1169 ?_
  refine jB C [(.aload_n 0, 1, 0)] 65 [(0, .ref (b + v0))] [.ref (b + v0), .int (S2.1 v0 15), .ref (b + v0)] (by decide +kernel) rfl rfl ?_
  refine jGetI C 68 (by decide +kernel : decode cX11_next 65 = .ok (.getfield 259, 3)) rfl t_v0 kX11 14 (by decide) rfl rfl (by decide) wd_1168 ?_
  refine jIcmp_ne C 71 75 (by decide +kernel : decode cX11_next 68 = .ok (.if_icmp .ne 7, 3)) rfl rfl (fun c3 => ?_) (fun c3 => ?_)
  · have h := it2 h c3
    refine jB C [(.aload_n 0, 1, 0)] 76 [(0, .ref (b + v0))] [.ref (b + v0), .ref (b + v0)] (by decide +kernel) rfl rfl ?_
    obtain ⟨a4, e_a4, h⟩ := h
    refine jGetR C 79 (by decide +kernel : decode cX11_next 76 = .ok (.getfield 38, 3)) rfl t_v0 kX11 13 (by decide) rfl rfl (by decide) wd_1167 e_a4 rfl (fun t_a4 => ?_)
    refine jB C [(.aload_n 0, 1, 0)] 80 [(0, .ref (b + v0))] [.ref (b + v0), .ref (b + a4), .ref (b + v0)] (by decide +kernel) rfl rfl ?_
    refine jGetI C 83 (by decide +kernel : decode cX11_next 80 = .ok (.getfield 278, 3)) rfl t_v0 kX11 15 (by decide) rfl rfl (by decide) wd_1169 ?_
    obtain ⟨y5, h⟩ := h
    refine jIald C 84 (by decide +kernel : decode cX11_next 83 = .ok (.iaload, 1)) rfl t_a4 y5 ?_
    refine jcS_I C 87 (rest := [.ref (b + v0)]) (ok_X11_isSmall h) (by decide +kernel : decode cX11_next 84 = .ok (.invokestatic 285, 3)) rfl wd_1528 wd_1529 wd_12 wd_1530 ⟨rfl, rfl⟩ hd_X11_isSmall ⟨Nat.le_of_ble_eq_true rfl, Nat.le_of_ble_eq_true rfl⟩ rfl rfl (Nat.le_of_ble_eq_true rfl) ⟨Nat.zero_le _, Nat.zero_le _⟩ (fun r7 S6 h => ?_)
    refine jIf_eq C 90 94 (by decide +kernel : decode cX11_next 87 = .ok (.ifCond .eq 7, 3)) rfl rfl (fun c8 => ?_) (fun c8 => ?_)
    · have h := it1 h c8
      refine jB C [(.aload_n 0, 1, 0)] 95 [(0, .ref (b + v0))] [.ref (b + v0), .ref (b + v0)] (by decide +kernel) rfl rfl ?_
      obtain ⟨a9, e_a9, h⟩ := h
      refine jGetR C 98 (by decide +kernel : decode cX11_next 95 = .ok (.getfield 38, 3)) rfl t_v0 kX11 13 (by decide) rfl rfl (by decide) wd_1167 e_a9 rfl (fun t_a9 => ?_)
      refine jB C [(.aload_n 0, 1, 0)] 99 [(0, .ref (b + v0))] [.ref (b + v0), .ref (b + a9), .ref (b + v0)] (by decide +kernel) rfl rfl ?_
      refine jGetI C 102 (by decide +kernel : decode cX11_next 99 = .ok (.getfield 278, 3)) rfl t_v0 kX11 15 (by decide) rfl rfl (by decide) wd_1169 ?_
      obtain ⟨y10, h⟩ := h
      refine jIald C 103 (by decide +kernel : decode cX11_next 102 = .ok (.iaload, 1)) rfl t_a9 y10 ?_
      refine jcS_I C 106 (rest := [.ref (b + v0)]) (ok_X11_isDigit h) (by decide +kernel : decode cX11_next 103 = .ok (.invokestatic 288, 3)) rfl wd_1531 wd_1532 wd_12 wd_1533 ⟨rfl, rfl⟩ hd_X11_isDigit ⟨Nat.le_of_ble_eq_true rfl, Nat.le_of_ble_eq_true rfl⟩ rfl rfl (Nat.le_of_ble_eq_true rfl) ⟨Nat.zero_le _, Nat.zero_le _⟩ (fun r12 S11 h => ?_)
      refine jIf_eq C 109 113 (by decide +kernel : decode cX11_next 106 = .ok (.ifCond .eq 7, 3)) rfl rfl (fun c13 => ?_) (fun c13 => ?_)
      · have h := it1 h c13
        refine jB C [(.iconst 3, 1, 3)] 114 [(0, .ref (b + v0))] [.int 3, .ref (b + v0)] (by decide +kernel) rfl rfl ?_
        refine jSub [0] rfl ?_
        exact j_X11_next_114 C hE t_v0 t_v0 h
      · have h := it2 h c13
        refine jB C [(.iconst 2, 1, 2)] 110 [(0, .ref (b + v0))] [.int 2, .ref (b + v0)] (by decide +kernel) rfl rfl ?_
        refine jGoto C 114 (by decide +kernel : decode cX11_next 110 = .ok (.goto 4, 3)) rfl ?_
        refine jSub [0] rfl ?_
        exact j_X11_next_114 C hE t_v0 t_v0 h
    · have h := it2 h c8
      refine jB C [(.iconst 1, 1, 1)] 91 [(0, .ref (b + v0))] [.int 1, .ref (b + v0)] (by decide +kernel) rfl rfl ?_
      refine jGoto C 114 (by decide +kernel : decode cX11_next 91 = .ok (.goto 23, 3)) rfl ?_
      refine jSub [0] rfl ?_
      exact j_X11_next_114 C hE t_v0 t_v0 h
  · have h := it1 h c3
    refine jB C [(.iconst 0, 1, 0)] 72 [(0, .ref (b + v0))] [.int 0, .ref (b + v0)] (by decide +kernel) rfl rfl ?_
    refine jGoto C 114 (by decide +kernel : decode cX11_next 72 = .ok (.goto 42, 3)) rfl ?_
    refine jSub [0] rfl ?_
    exact j_X11_next_114 C hE t_v0 t_v0 h
set_option maxHeartbeats 4000000 in
set_option maxRecDepth 100000 in
theorem j_X11_next_8_n {p : Program} {l : Launch} {e : Env} {s : State} {m : MethodId} {args : Array Value} {below : List Frame} {meth : Method} {c : Code} {b : Nat} {D : va_G} {cy : Nat → ClassId} {G : Gm} {v0 : Nat} {Q : St → Prop} (C : CX p s m args meth c b D cy cX11_next RX11 1 none) (hE : s.heap.size + 0 ≤ b + G.2.2) (t_v0 : ok G 10 v0) : ∀ k S, f_X11_next_8_n G v0 Q k S → J p l e rm_X11_next s m args below meth c b D cy 1 (zV b D cy below args s G Q) 0 0 G S 8 [(0, .ref (b + v0))] [] := by
  intro k
  induction k with
  | zero => intro S h; exact h.elim
  | succ k ih =>
    intro S h
    unfold f_X11_next_8_n at h
    refine jB C [(.aload_n 0, 1, 0)] 9 [(0, .ref (b + v0))] [.ref (b + v0)] (by decide +kernel) rfl rfl ?_
    refine jGetI C 12 (by decide +kernel : decode cX11_next 9 = .ok (.getfield 278, 3)) rfl t_v0 kX11 15 (by decide) rfl rfl (by decide) wd_1169 ?_
    refine jB C [(.aload_n 0, 1, 0)] 13 [(0, .ref (b + v0))] [.ref (b + v0), .int (S.1 v0 15)] (by decide +kernel) rfl rfl ?_
    refine jGetI C 16 (by decide +kernel : decode cX11_next 13 = .ok (.getfield 259, 3)) rfl t_v0 kX11 14 (by decide) rfl rfl (by decide) wd_1168 ?_
    refine jIcmp_ge C 19 46 (by decide +kernel : decode cX11_next 16 = .ok (.if_icmp .ge 30, 3)) rfl rfl (fun c1 => ?_) (fun c1 => ?_)
    · have h := it1 h c1
      refine jSub [0] rfl ?_
      exact j_X11_next_46 C hE t_v0 h
    · have h := it2 h c1
      refine jB C [(.aload_n 0, 1, 0)] 20 [(0, .ref (b + v0))] [.ref (b + v0)] (by decide +kernel) rfl rfl ?_
      obtain ⟨a2, e_a2, h⟩ := h
      refine jGetR C 23 (by decide +kernel : decode cX11_next 20 = .ok (.getfield 38, 3)) rfl t_v0 kX11 13 (by decide) rfl rfl (by decide) wd_1167 e_a2 rfl (fun t_a2 => ?_)
      refine jB C [(.aload_n 0, 1, 0)] 24 [(0, .ref (b + v0))] [.ref (b + v0), .ref (b + a2)] (by decide +kernel) rfl rfl ?_
      refine jGetI C 27 (by decide +kernel : decode cX11_next 24 = .ok (.getfield 278, 3)) rfl t_v0 kX11 15 (by decide) rfl rfl (by decide) wd_1169 ?_
      obtain ⟨y3, h⟩ := h
      refine jIald C 28 (by decide +kernel : decode cX11_next 27 = .ok (.iaload, 1)) rfl t_a2 y3 ?_
      refine jB C [(.bipush 32, 2, 32)] 30 [(0, .ref (b + v0))] [.int 32, .int (S.1 a2 (S.1 v0 15).toNatClampNeg)] (by decide +kernel) rfl rfl ?_
      refine jIcmp_ne C 33 46 (by decide +kernel : decode cX11_next 30 = .ok (.if_icmp .ne 16, 3)) rfl rfl (fun c4 => ?_) (fun c4 => ?_)
      · have h := it2 h c4
        refine jSub [0] rfl ?_
        exact j_X11_next_46 C hE t_v0 h
      · have h := it1 h c4
        refine jB C [(.aload_n 0, 1, 0), (.dup, 1, 0)] 35 [(0, .ref (b + v0))] [.ref (b + v0), .ref (b + v0)] (by decide +kernel) rfl rfl ?_
        refine jGetI C 38 (by decide +kernel : decode cX11_next 35 = .ok (.getfield 278, 3)) rfl t_v0 kX11 15 (by decide) rfl rfl (by decide) wd_1169 ?_
        refine jB C [(.iconst 1, 1, 1), (.iadd, 1, 0)] 40 [(0, .ref (b + v0))] [.int ((S.1 v0 15) + 1), .ref (b + v0)] (by decide +kernel) rfl rfl ?_
        refine jPutI C 43 (by decide +kernel : decode cX11_next 40 = .ok (.putfield 278, 3)) rfl hE t_v0 kX11 15 (by decide) rfl rfl (by decide) rfl wd_1169 rfl rfl rfl ?_
        refine jTopS (fun S5 e_S5 => ?_)
        have h := h S5 e_S5
        refine jGoto C 8 (by decide +kernel : decode cX11_next 43 = .ok (.goto (-35), 3)) rfl ?_
        refine jSub [0] rfl ?_
        exact ih S5 h
theorem j_X11_next_8 {p : Program} {l : Launch} {e : Env} {s : State} {m : MethodId} {args : Array Value} {below : List Frame} {meth : Method} {c : Code} {b : Nat} {D : va_G} {cy : Nat → ClassId} {G : Gm} {v0 : Nat} {S : St} {Q : St → Prop} (C : CX p s m args meth c b D cy cX11_next RX11 1 none) (hE : s.heap.size + 0 ≤ b + G.2.2) (t_v0 : ok G 10 v0) (h : f_X11_next_8 G v0 Q S) : J p l e rm_X11_next s m args below meth c b D cy 1 (zV b D cy below args s G Q) 0 0 G S 8 [(0, .ref (b + v0))] [] := by
  obtain ⟨k, h⟩ := h
  exact j_X11_next_8_n C hE t_v0 k S h
set_option maxHeartbeats 4000000 in
set_option maxRecDepth 100000 in
theorem j_X11_next {p : Program} {l : Launch} {e : Env} {s : State} {m : MethodId} {args : Array Value} {below : List Frame} {meth : Method} {c : Code} {b : Nat} {D : va_G} {cy : Nat → ClassId} {G : Gm} {v0 : Nat} {S : St} {Q : St → Prop} (C : CX p s m args meth c b D cy cX11_next RX11 1 none) (hE : s.heap.size + 0 ≤ b + G.2.2) (t_v0 : ok G 10 v0) (h : f_X11_next G v0 Q S) : J p l e rm_X11_next s m args below meth c b D cy 1 (zV b D cy below args s G Q) 0 0 G S 0 [(0, .ref (b + v0))] [] := by
  unfold f_X11_next at h
  refine jB C [(.aload_n 0, 1, 0), (.aload_n 0, 1, 0)] 2 [(0, .ref (b + v0))] [.ref (b + v0), .ref (b + v0)] (by decide +kernel) rfl rfl ?_
  refine jGetI C 5 (by decide +kernel : decode cX11_next 2 = .ok (.getfield 268, 3)) rfl t_v0 kX11 16 (by decide) rfl rfl (by decide) wd_1170 ?_
  refine jPutI C 8 (by decide +kernel : decode cX11_next 5 = .ok (.putfield 278, 3)) rfl hE t_v0 kX11 15 (by decide) rfl rfl (by decide) rfl wd_1169 rfl rfl rfl ?_
  refine jTopS (fun S1 e_S1 => ?_)
  have h := h S1 e_S1
  refine jSub [0] rfl ?_
  exact j_X11_next_8 C hE t_v0 h
theorem ok_X11_next {G : Gm} {v0 : Nat} {S : St} {Q : St → Prop}  (t_v0 : ok G 10 v0) (h : f_X11_next G v0 Q S) : MT yX11_next cX11_next 1 none rm_X11_next 0 0 (fun b => [.ref (b + v0)]) G S (QV (fun G1 S1 => G1 = G ∧ Q S1)) := MT.ofJ (by decide +kernel) (fun b => [(0, .ref (b + v0))]) (fun b => rfl) (fun b => Nat.le_of_ble_eq_true rfl) (fun l b D cy p e s m below meth c C hE hn => j_X11_next C hE t_v0 h)
theorem hd_X11_next : yX11_next.cls ≠ "java/lang/invoke/MethodHandle" ∧ yX11_next.cls ≠ "java/lang/invoke/VarHandle" ∧ (parseMethodDescriptor yX11_next.desc).map (fun d => d.parameters.length) = some 0 := by decide +kernel
abbrev rm_X11_begin : Room := { frames := 2, cells := 0, slots := 0, locals := 40 }
set_option maxHeartbeats 4000000 in
set_option maxRecDepth 100000 in
theorem j_X11_begin {p : Program} {l : Launch} {e : Env} {s : State} {m : MethodId} {args : Array Value} {below : List Frame} {meth : Method} {c : Code} {b : Nat} {D : va_G} {cy : Nat → ClassId} {G : Gm} {v0 : Nat} {S : St} {Q : St → Prop} (C : CX p s m args meth c b D cy cX11_begin RX11 1 none) (hE : s.heap.size + 0 ≤ b + G.2.2) (t_v0 : ok G 10 v0) (h : f_X11_begin G v0 Q S) : J p l e rm_X11_begin s m args below meth c b D cy 1 (zV b D cy below args s G Q) 0 0 G S 0 [(0, .ref (b + v0))] [] := by
  unfold f_X11_begin at h
  refine jB C [(.aload_n 0, 1, 0), (.iconst 0, 1, 0)] 2 [(0, .ref (b + v0))] [.int 0, .ref (b + v0)] (by decide +kernel) rfl rfl ?_
  refine jPutI C 5 (by decide +kernel : decode cX11_begin 2 = .ok (.putfield 268, 3)) rfl hE t_v0 kX11 16 (by decide) rfl rfl (by decide) rfl wd_1170 rfl rfl rfl ?_
  refine jTopS (fun S1 e_S1 => ?_)
  have h := h S1 e_S1
  refine jB C [(.aload_n 0, 1, 0), (.iconst 0, 1, 0)] 7 [(0, .ref (b + v0))] [.int 0, .ref (b + v0)] (by decide +kernel) rfl rfl ?_
  refine jPutI C 10 (by decide +kernel : decode cX11_begin 7 = .ok (.putfield 271, 3)) rfl hE t_v0 kX11 20 (by decide) rfl rfl (by decide) rfl wd_1174 rfl (by decide) (by decide) ?_
  refine jTopS (fun S2 e_S2 => ?_)
  have h := h S2 e_S2
  refine jB C [(.aload_n 0, 1, 0), (.iconst (-1), 1, (-1))] 12 [(0, .ref (b + v0))] [.int (-1), .ref (b + v0)] (by decide +kernel) rfl rfl ?_
  refine jPutI C 15 (by decide +kernel : decode cX11_begin 12 = .ok (.putfield 41, 3)) rfl hE t_v0 kX11 19 (by decide) rfl rfl (by decide) rfl wd_1173 rfl rfl rfl ?_
  refine jTopS (fun S3 e_S3 => ?_)
  have h := h S3 e_S3
  refine jB C [(.aload_n 0, 1, 0)] 16 [(0, .ref (b + v0))] [.ref (b + v0)] (by decide +kernel) rfl rfl ?_
  refine jcV_V C 19 (rest := []) (ok_X11_next t_v0 h) (by decide +kernel : decode cX11_begin 16 = .ok (.invokevirtual 275, 3)) rfl wd_1524 wd_1526 wp_121 wd_12 wd_1527 ⟨rfl, rfl⟩ hd_X11_next ⟨Nat.le_of_ble_eq_true rfl, Nat.le_of_ble_eq_true rfl⟩ t_v0 kX11 (by decide) rfl rfl rfl (Nat.le_of_ble_eq_true rfl) ⟨Nat.zero_le _, Nat.zero_le _⟩ (fun S4 h => ?_)
  exact jRetV C (by decide +kernel : decode cX11_begin 19 = .ok (.return_, 1)) (Nat.le_refl _) (Nat.le_refl _) ⟨rfl, h⟩
theorem ok_X11_begin {G : Gm} {v0 : Nat} {S : St} {Q : St → Prop}  (t_v0 : ok G 10 v0) (h : f_X11_begin G v0 Q S) : MT yX11_begin cX11_begin 1 none rm_X11_begin 0 0 (fun b => [.ref (b + v0)]) G S (QV (fun G1 S1 => G1 = G ∧ Q S1)) := MT.ofJ (by decide +kernel) (fun b => [(0, .ref (b + v0))]) (fun b => rfl) (fun b => Nat.le_of_ble_eq_true rfl) (fun l b D cy p e s m below meth c C hE hn => j_X11_begin C hE t_v0 h)
theorem hd_X11_begin : yX11_begin.cls ≠ "java/lang/invoke/MethodHandle" ∧ yX11_begin.cls ≠ "java/lang/invoke/VarHandle" ∧ (parseMethodDescriptor yX11_begin.desc).map (fun d => d.parameters.length) = some 0 := by decide +kernel
abbrev rm_X11_beginText : Room := { frames := 3, cells := 0, slots := 0, locals := 60 }
set_option maxHeartbeats 4000000 in
set_option maxRecDepth 100000 in
theorem j_X11_beginText {p : Program} {l : Launch} {e : Env} {s : State} {m : MethodId} {args : Array Value} {below : List Frame} {meth : Method} {c : Code} {b : Nat} {D : va_G} {cy : Nat → ClassId} {G : Gm} {v0 : Nat} {v1 : Int32} {S : St} {Q : St → Prop} (C : CX p s m args meth c b D cy cX11_beginText RX11 2 none) (hE : s.heap.size + 0 ≤ b + G.2.2) (t_v0 : ok G 10 v0) (h : f_X11_beginText G v0 v1 Q S) : J p l e rm_X11_beginText s m args below meth c b D cy 2 (zV b D cy below args s G Q) 0 0 G S 0 [(0, .ref (b + v0)), (1, .int v1)] [] := by
  unfold f_X11_beginText at h
  refine jB C [(.aload_n 0, 1, 0), (.iload_n 1, 1, 0)] 2 [(0, .ref (b + v0)), (1, .int v1)] [.int v1, .ref (b + v0)] (by decide +kernel) rfl rfl ?_
  obtain ⟨z6, h⟩ := h
  refine jPutI C 5 (by decide +kernel : decode cX11_beginText 2 = .ok (.putfield 347, 3)) rfl hE t_v0 kX11 21 (by decide) rfl rfl (by decide) rfl wd_1175 rfl (nbZ z6) (fbZ z6) ?_
  refine jTopS (fun S1 e_S1 => ?_)
  have h := h S1 e_S1
  refine jB C [(.aload_n 0, 1, 0)] 6 [(0, .ref (b + v0)), (1, .int v1)] [.ref (b + v0)] (by decide +kernel) rfl rfl ?_
  refine jcV_V C 9 (rest := []) (ok_X11_begin t_v0 h) (by decide +kernel : decode cX11_beginText 6 = .ok (.invokevirtual 396, 3)) rfl wd_1520 wd_1522 wp_120 wd_12 wd_1523 ⟨rfl, rfl⟩ hd_X11_begin ⟨Nat.le_of_ble_eq_true rfl, Nat.le_of_ble_eq_true rfl⟩ t_v0 kX11 (by decide) rfl rfl rfl (Nat.le_of_ble_eq_true rfl) ⟨Nat.zero_le _, Nat.zero_le _⟩ (fun S2 h => ?_)
  refine jB C [(.aload_n 0, 1, 0), (.iconst 0, 1, 0)] 11 [(0, .ref (b + v0)), (1, .int v1)] [.int 0, .ref (b + v0)] (by decide +kernel) rfl rfl ?_
  refine jPutI C 14 (by decide +kernel : decode cX11_beginText 11 = .ok (.putfield 399, 3)) rfl hE t_v0 kX11 22 (by decide) rfl rfl (by decide) rfl wd_1176 rfl rfl rfl ?_
  refine jTopS (fun S3 e_S3 => ?_)
  have h := h S3 e_S3
  refine jB C [(.aload_n 0, 1, 0), (.iconst 0, 1, 0)] 16 [(0, .ref (b + v0)), (1, .int v1)] [.int 0, .ref (b + v0)] (by decide +kernel) rfl rfl ?_
  refine jPutI C 19 (by decide +kernel : decode cX11_beginText 16 = .ok (.putfield 308, 3)) rfl hE t_v0 kX11 24 (by decide) rfl rfl (by decide) rfl wd_1178 rfl rfl rfl ?_
  refine jTopS (fun S4 e_S4 => ?_)
  have h := h S4 e_S4
  refine jB C [(.aload_n 0, 1, 0), (.iconst 0, 1, 0)] 21 [(0, .ref (b + v0)), (1, .int v1)] [.int 0, .ref (b + v0)] (by decide +kernel) rfl rfl ?_
  refine jPutI C 24 (by decide +kernel : decode cX11_beginText 21 = .ok (.putfield 338, 3)) rfl hE t_v0 kX11 27 (by decide) rfl rfl (by decide) rfl wd_1181 rfl rfl rfl ?_
  refine jTopS (fun S5 e_S5 => ?_)
  have h := h S5 e_S5
  exact jRetV C (by decide +kernel : decode cX11_beginText 24 = .ok (.return_, 1)) (Nat.le_refl _) (Nat.le_refl _) ⟨rfl, h⟩
theorem ok_X11_beginText {G : Gm} {v0 : Nat} {v1 : Int32} {S : St} {Q : St → Prop}  (t_v0 : ok G 10 v0) (h : f_X11_beginText G v0 v1 Q S) : MT yX11_beginText cX11_beginText 2 none rm_X11_beginText 0 0 (fun b => [.ref (b + v0), .int v1]) G S (QV (fun G1 S1 => G1 = G ∧ Q S1)) := MT.ofJ (by decide +kernel) (fun b => [(0, .ref (b + v0)), (1, .int v1)]) (fun b => rfl) (fun b => Nat.le_of_ble_eq_true rfl) (fun l b D cy p e s m below meth c C hE hn => j_X11_beginText C hE t_v0 h)
theorem hd_X11_beginText : yX11_beginText.cls ≠ "java/lang/invoke/MethodHandle" ∧ yX11_beginText.cls ≠ "java/lang/invoke/VarHandle" ∧ (parseMethodDescriptor yX11_beginText.desc).map (fun d => d.parameters.length) = some 1 := by decide +kernel
abbrev rm_X11_isSign : Room := { frames := 0, cells := 0, slots := 0, locals := 0 }
set_option maxHeartbeats 4000000 in
set_option maxRecDepth 100000 in
theorem j_X11_isSign {p : Program} {l : Launch} {e : Env} {s : State} {m : MethodId} {args : Array Value} {below : List Frame} {meth : Method} {c : Code} {b : Nat} {D : va_G} {cy : Nat → ClassId} {G : Gm} {v0 : Nat} {v1 : Int32} {S : St} {Q : Int32 → St → Prop} (C : CX p s m args meth c b D cy cX11_isSign RX11 2 (some .boolean)) (hE : s.heap.size + 0 ≤ b + G.2.2) (t_v0 : ok G 10 v0) (h : f_X11_isSign G v0 v1 Q S) : J p l e rm_X11_isSign s m args below meth c b D cy 2 (zI b D cy below args s G Q) 0 0 G S 0 [(0, .ref (b + v0)), (1, .int v1)] [] := by
  unfold f_X11_isSign at h
  refine jB C [(.aload_n 0, 1, 0)] 1 [(0, .ref (b + v0)), (1, .int v1)] [.ref (b + v0)] (by decide +kernel) rfl rfl ?_
  refine jGetI C 4 (by decide +kernel : decode cX11_isSign 1 = .ok (.getfield 291, 3)) rfl t_v0 kX11 17 (by decide) rfl rfl (by decide) wd_1171 ?_
  refine jB C [(.iconst 3, 1, 3)] 5 [(0, .ref (b + v0)), (1, .int v1)] [.int 3, .int (S.1 v0 17)] (by decide +kernel) rfl rfl ?_
  refine jIcmp_ne C 8 22 (by decide +kernel : decode cX11_isSign 5 = .ok (.if_icmp .ne 17, 3)) rfl rfl (fun c1 => ?_) (fun c1 => ?_)
  · have h := it2 h c1
    refine jB C [(.iconst 0, 1, 0)] 23 [(0, .ref (b + v0)), (1, .int v1)] [.int 0] (by decide +kernel) rfl rfl ?_
    exact jRetZ C (by decide +kernel : decode cX11_isSign 23 = .ok (.ireturn, 1)) (Nat.le_refl _) (Nat.le_refl _) (by decide) ⟨rfl, h⟩
  · have h := it1 h c1
    refine jB C [(.aload_n 0, 1, 0)] 9 [(0, .ref (b + v0)), (1, .int v1)] [.ref (b + v0)] (by decide +kernel) rfl rfl ?_
    refine jGetJ C 12 (by decide +kernel : decode cX11_isSign 9 = .ok (.getfield 281, 3)) rfl t_v0 kX11 18 (by decide) rfl rfl (by decide) wd_1172 ?_
    refine jB C [(.iload_n 1, 1, 0), (.i2l, 1, 0), (.lcmp, 1, 0)] 15 [(0, .ref (b + v0)), (1, .int v1)] [.int (lg_cmp (S.2.1 v0 18) v1.toInt64)] (by decide +kernel) rfl rfl ?_
    refine jIf_ne C 18 22 (by decide +kernel : decode cX11_isSign 15 = .ok (.ifCond .ne 7, 3)) rfl rfl (fun c2 => ?_) (fun c2 => ?_)
    · have h := it2 h c2
      refine jB C [(.iconst 0, 1, 0)] 23 [(0, .ref (b + v0)), (1, .int v1)] [.int 0] (by decide +kernel) rfl rfl ?_
      exact jRetZ C (by decide +kernel : decode cX11_isSign 23 = .ok (.ireturn, 1)) (Nat.le_refl _) (Nat.le_refl _) (by decide) ⟨rfl, h⟩
    · have h := it1 h c2
      refine jB C [(.iconst 1, 1, 1)] 19 [(0, .ref (b + v0)), (1, .int v1)] [.int 1] (by decide +kernel) rfl rfl ?_
      refine jGoto C 23 (by decide +kernel : decode cX11_isSign 19 = .ok (.goto 4, 3)) rfl ?_
      exact jRetZ C (by decide +kernel : decode cX11_isSign 23 = .ok (.ireturn, 1)) (Nat.le_refl _) (Nat.le_refl _) (by decide) ⟨rfl, h⟩
theorem ok_X11_isSign {G : Gm} {v0 : Nat} {v1 : Int32} {S : St} {Q : Int32 → St → Prop}  (t_v0 : ok G 10 v0) (h : f_X11_isSign G v0 v1 Q S) : MT yX11_isSign cX11_isSign 2 (some .boolean) rm_X11_isSign 0 0 (fun b => [.ref (b + v0), .int v1]) G S (QI (fun r G1 S1 => G1 = G ∧ Q r S1)) := MT.ofJ (by decide +kernel) (fun b => [(0, .ref (b + v0)), (1, .int v1)]) (fun b => rfl) (fun b => Nat.le_of_ble_eq_true rfl) (fun l b D cy p e s m below meth c C hE hn => j_X11_isSign C hE t_v0 h)
theorem hd_X11_isSign : yX11_isSign.cls ≠ "java/lang/invoke/MethodHandle" ∧ yX11_isSign.cls ≠ "java/lang/invoke/VarHandle" ∧ (parseMethodDescriptor yX11_isSign.desc).map (fun d => d.parameters.length) = some 1 := by decide +kernel
abbrev rm_X11_binds : Room := { frames := 0, cells := 0, slots := 0, locals := 0 }
set_option maxHeartbeats 4000000 in
set_option maxRecDepth 100000 in
theorem j_X11_binds {p : Program} {l : Launch} {e : Env} {s : State} {m : MethodId} {args : Array Value} {below : List Frame} {meth : Method} {c : Code} {b : Nat} {D : va_G} {cy : Nat → ClassId} {G : Gm} {v0 : Int32} {S : St} {Q : Int32 → St → Prop} (C : CX p s m args meth c b D cy cX11_binds RX11 1 (some .int)) (hE : s.heap.size + 0 ≤ b + G.2.2) (h : f_X11_binds G v0 Q S) : J p l e rm_X11_binds s m args below meth c b D cy 1 (zI b D cy below args s G Q) 0 0 G S 0 [(0, .int v0)] [] := by
  unfold f_X11_binds at h
  refine jB C [(.iload_n 0, 1, 0), (.bipush 31, 2, 31)] 3 [(0, .int v0)] [.int 31, .int v0] (by decide +kernel) rfl rfl ?_
  refine jIcmp_lt C 6 10 (by decide +kernel : decode cX11_binds 3 = .ok (.if_icmp .lt 7, 3)) rfl rfl (fun c1 => ?_) (fun c1 => ?_)
  · have h := it1 h c1
    refine jB C [(.iload_n 0, 1, 0), (.bipush 30, 2, 30)] 13 [(0, .int v0)] [.int 30, .int v0] (by decide +kernel) rfl rfl ?_
    refine jIcmp_ne C 16 20 (by decide +kernel : decode cX11_binds 13 = .ok (.if_icmp .ne 7, 3)) rfl rfl (fun c2 => ?_) (fun c2 => ?_)
    · have h := it2 h c2
      refine jB C [(.iload_n 0, 1, 0), (.bipush 29, 2, 29)] 23 [(0, .int v0)] [.int 29, .int v0] (by decide +kernel) rfl rfl ?_
      refine jIcmp_ne C 26 30 (by decide +kernel : decode cX11_binds 23 = .ok (.if_icmp .ne 7, 3)) rfl rfl (fun c3 => ?_) (fun c3 => ?_)
      · have h := it2 h c3
        refine jB C [(.iload_n 0, 1, 0), (.bipush 28, 2, 28)] 33 [(0, .int v0)] [.int 28, .int v0] (by decide +kernel) rfl rfl ?_
        refine jIcmp_ne C 36 40 (by decide +kernel : decode cX11_binds 33 = .ok (.if_icmp .ne 7, 3)) rfl rfl (fun c4 => ?_) (fun c4 => ?_)
        · have h := it2 h c4
          refine jB C [(.iload_n 0, 1, 0), (.bipush 25, 2, 25)] 43 [(0, .int v0)] [.int 25, .int v0] (by decide +kernel) rfl rfl ?_
          refine jIcmp_lt C 46 50 (by decide +kernel : decode cX11_binds 43 = .ok (.if_icmp .lt 7, 3)) rfl rfl (fun c5 => ?_) (fun c5 => ?_)
          · have h := it1 h c5
            refine jB C [(.iload_n 0, 1, 0), (.bipush 22, 2, 22)] 53 [(0, .int v0)] [.int 22, .int v0] (by decide +kernel) rfl rfl ?_
            refine jIcmp_lt C 56 61 (by decide +kernel : decode cX11_binds 53 = .ok (.if_icmp .lt 8, 3)) rfl rfl (fun c6 => ?_) (fun c6 => ?_)
            · have h := it1 h c6
              refine jB C [(.iconst 5, 1, 5)] 62 [(0, .int v0)] [.int 5] (by decide +kernel) rfl rfl ?_
              exact jRetI C (by decide +kernel : decode cX11_binds 62 = .ok (.ireturn, 1)) (Nat.le_refl _) (Nat.le_refl _) ⟨rfl, h⟩
            · have h := it2 h c6
              refine jB C [(.bipush 6, 2, 6)] 58 [(0, .int v0)] [.int 6] (by decide +kernel) rfl rfl ?_
              refine jGoto C 62 (by decide +kernel : decode cX11_binds 58 = .ok (.goto 4, 3)) rfl ?_
              exact jRetI C (by decide +kernel : decode cX11_binds 62 = .ok (.ireturn, 1)) (Nat.le_refl _) (Nat.le_refl _) ⟨rfl, h⟩
          · have h := it2 h c5
            refine jB C [(.iconst 4, 1, 4)] 47 [(0, .int v0)] [.int 4] (by decide +kernel) rfl rfl ?_
            refine jGoto C 62 (by decide +kernel : decode cX11_binds 47 = .ok (.goto 15, 3)) rfl ?_
            exact jRetI C (by decide +kernel : decode cX11_binds 62 = .ok (.ireturn, 1)) (Nat.le_refl _) (Nat.le_refl _) ⟨rfl, h⟩
        · have h := it1 h c4
          refine jB C [(.iconst 3, 1, 3)] 37 [(0, .int v0)] [.int 3] (by decide +kernel) rfl rfl ?_
          refine jGoto C 62 (by decide +kernel : decode cX11_binds 37 = .ok (.goto 25, 3)) rfl ?_
          exact jRetI C (by decide +kernel : decode cX11_binds 62 = .ok (.ireturn, 1)) (Nat.le_refl _) (Nat.le_refl _) ⟨rfl, h⟩
      · have h := it1 h c3
        refine jB C [(.iconst 2, 1, 2)] 27 [(0, .int v0)] [.int 2] (by decide +kernel) rfl rfl ?_
        refine jGoto C 62 (by decide +kernel : decode cX11_binds 27 = .ok (.goto 35, 3)) rfl ?_
        exact jRetI C (by decide +kernel : decode cX11_binds 62 = .ok (.ireturn, 1)) (Nat.le_refl _) (Nat.le_refl _) ⟨rfl, h⟩
    · have h := it1 h c2
      refine jB C [(.iconst 1, 1, 1)] 17 [(0, .int v0)] [.int 1] (by decide +kernel) rfl rfl ?_
      refine jGoto C 62 (by decide +kernel : decode cX11_binds 17 = .ok (.goto 45, 3)) rfl ?_
      exact jRetI C (by decide +kernel : decode cX11_binds 62 = .ok (.ireturn, 1)) (Nat.le_refl _) (Nat.le_refl _) ⟨rfl, h⟩
  · have h := it2 h c1
    refine jB C [(.iconst 0, 1, 0)] 7 [(0, .int v0)] [.int 0] (by decide +kernel) rfl rfl ?_
    refine jGoto C 62 (by decide +kernel : decode cX11_binds 7 = .ok (.goto 55, 3)) rfl ?_
    exact jRetI C (by decide +kernel : decode cX11_binds 62 = .ok (.ireturn, 1)) (Nat.le_refl _) (Nat.le_refl _) ⟨rfl, h⟩
theorem ok_X11_binds {G : Gm} {v0 : Int32} {S : St} {Q : Int32 → St → Prop}  (h : f_X11_binds G v0 Q S) : MT yX11_binds cX11_binds 1 (some .int) rm_X11_binds 0 0 (fun b => [.int v0]) G S (QI (fun r G1 S1 => G1 = G ∧ Q r S1)) := MT.ofJ (by decide +kernel) (fun b => [(0, .int v0)]) (fun b => rfl) (fun b => Nat.le_of_ble_eq_true rfl) (fun l b D cy p e s m below meth c C hE hn => j_X11_binds C hE h)
theorem hd_X11_binds : yX11_binds.cls ≠ "java/lang/invoke/MethodHandle" ∧ yX11_binds.cls ≠ "java/lang/invoke/VarHandle" ∧ (parseMethodDescriptor yX11_binds.desc).map (fun d => d.parameters.length) = some 1 := by decide +kernel
abbrev rm_X11_emit : Room := { frames := 0, cells := 0, slots := 0, locals := 0 }
set_option maxHeartbeats 4000000 in
set_option maxRecDepth 100000 in
theorem j_X11_emit {p : Program} {l : Launch} {e : Env} {s : State} {m : MethodId} {args : Array Value} {below : List Frame} {meth : Method} {c : Code} {b : Nat} {D : va_G} {cy : Nat → ClassId} {G : Gm} {v0 : Nat} {v1 : Int32} {v2 : Int32} {S : St} {Q : St → Prop} (C : CX p s m args meth c b D cy cX11_emit RX11 3 none) (hE : s.heap.size + 0 ≤ b + G.2.2) (t_v0 : ok G 10 v0) (h : f_X11_emit G v0 v1 v2 Q S) : J p l e rm_X11_emit s m args below meth c b D cy 3 (zV b D cy below args s G Q) 0 0 G S 0 [(0, .ref (b + v0)), (1, .int v1), (2, .int v2)] [] := by
  unfold f_X11_emit at h
  refine jB C [(.aload_n 0, 1, 0)] 1 [(0, .ref (b + v0)), (1, .int v1), (2, .int v2)] [.ref (b + v0)] (by decide +kernel) rfl rfl ?_
  obtain ⟨a1, e_a1, h⟩ := h
  refine jGetR C 4 (by decide +kernel : decode cX11_emit 1 = .ok (.getfield 48, 3)) rfl t_v0 kX11 25 (by decide) rfl rfl (by decide) wd_1179 e_a1 rfl (fun t_a1 => ?_)
  refine jB C [(.aload_n 0, 1, 0)] 5 [(0, .ref (b + v0)), (1, .int v1), (2, .int v2)] [.ref (b + v0), .ref (b + a1)] (by decide +kernel) rfl rfl ?_
  refine jGetI C 8 (by decide +kernel : decode cX11_emit 5 = .ok (.getfield 308, 3)) rfl t_v0 kX11 24 (by decide) rfl rfl (by decide) wd_1178 ?_
  refine jB C [(.iload_n 1, 1, 0)] 9 [(0, .ref (b + v0)), (1, .int v1), (2, .int v2)] [.int v1, .int (S.1 v0 24), .ref (b + a1)] (by decide +kernel) rfl rfl ?_
  obtain ⟨y2, h⟩ := h
  refine jIast C 10 (by decide +kernel : decode cX11_emit 9 = .ok (.iastore, 1)) rfl hE t_a1 y2 ?_
  refine jTopS (fun S3 e_S3 => ?_)
  have h := h S3 e_S3
  refine jB C [(.aload_n 0, 1, 0)] 11 [(0, .ref (b + v0)), (1, .int v1), (2, .int v2)] [.ref (b + v0)] (by decide +kernel) rfl rfl ?_
  obtain ⟨a4, e_a4, h⟩ := h
  refine jGetR C 14 (by decide +kernel : decode cX11_emit 11 = .ok (.getfield 51, 3)) rfl t_v0 kX11 26 (by decide) rfl rfl (by decide) wd_1180 e_a4 rfl (fun t_a4 => ?_)
  refine jB C [(.aload_n 0, 1, 0)] 15 [(0, .ref (b + v0)), (1, .int v1), (2, .int v2)] [.ref (b + v0), .ref (b + a4)] (by decide +kernel) rfl rfl ?_
  refine jGetI C 18 (by decide +kernel : decode cX11_emit 15 = .ok (.getfield 308, 3)) rfl t_v0 kX11 24 (by decide) rfl rfl (by decide) wd_1178 ?_
  refine jB C [(.iload_n 2, 1, 0)] 19 [(0, .ref (b + v0)), (1, .int v1), (2, .int v2)] [.int v2, .int (S3.1 v0 24), .ref (b + a4)] (by decide +kernel) rfl rfl ?_
  obtain ⟨y5, h⟩ := h
  refine jIast C 20 (by decide +kernel : decode cX11_emit 19 = .ok (.iastore, 1)) rfl hE t_a4 y5 ?_
  refine jTopS (fun S6 e_S6 => ?_)
  have h := h S6 e_S6
  refine jB C [(.aload_n 0, 1, 0), (.dup, 1, 0)] 22 [(0, .ref (b + v0)), (1, .int v1), (2, .int v2)] [.ref (b + v0), .ref (b + v0)] (by decide +kernel) rfl rfl ?_
  refine jGetI C 25 (by decide +kernel : decode cX11_emit 22 = .ok (.getfield 308, 3)) rfl t_v0 kX11 24 (by decide) rfl rfl (by decide) wd_1178 ?_
  refine jB C [(.iconst 1, 1, 1), (.iadd, 1, 0)] 27 [(0, .ref (b + v0)), (1, .int v1), (2, .int v2)] [.int ((S6.1 v0 24) + 1), .ref (b + v0)] (by decide +kernel) rfl rfl ?_
  refine jPutI C 30 (by decide +kernel : decode cX11_emit 27 = .ok (.putfield 308, 3)) rfl hE t_v0 kX11 24 (by decide) rfl rfl (by decide) rfl wd_1178 rfl rfl rfl ?_
  refine jTopS (fun S7 e_S7 => ?_)
  have h := h S7 e_S7
  exact jRetV C (by decide +kernel : decode cX11_emit 30 = .ok (.return_, 1)) (Nat.le_refl _) (Nat.le_refl _) ⟨rfl, h⟩
theorem ok_X11_emit {G : Gm} {v0 : Nat} {v1 : Int32} {v2 : Int32} {S : St} {Q : St → Prop}  (t_v0 : ok G 10 v0) (h : f_X11_emit G v0 v1 v2 Q S) : MT yX11_emit cX11_emit 3 none rm_X11_emit 0 0 (fun b => [.ref (b + v0), .int v1, .int v2]) G S (QV (fun G1 S1 => G1 = G ∧ Q S1)) := MT.ofJ (by decide +kernel) (fun b => [(0, .ref (b + v0)), (1, .int v1), (2, .int v2)]) (fun b => rfl) (fun b => Nat.le_of_ble_eq_true rfl) (fun l b D cy p e s m below meth c C hE hn => j_X11_emit C hE t_v0 h)
theorem hd_X11_emit : yX11_emit.cls ≠ "java/lang/invoke/MethodHandle" ∧ yX11_emit.cls ≠ "java/lang/invoke/VarHandle" ∧ (parseMethodDescriptor yX11_emit.desc).map (fun d => d.parameters.length) = some 2 := by decide +kernel
abbrev rm_X11_settle : Room := { frames := 1, cells := 0, slots := 0, locals := 22 }
set_option maxHeartbeats 4000000 in
set_option maxRecDepth 100000 in
theorem j_X11_settle_63 {p : Program} {l : Launch} {e : Env} {s : State} {m : MethodId} {args : Array Value} {below : List Frame} {meth : Method} {c : Code} {b : Nat} {D : va_G} {cy : Nat → ClassId} {G : Gm} {k0 : St → Prop} {v0 : Nat} {v1 : Int32} {S : St} {Q : St → Prop} (C : CX p s m args meth c b D cy cX11_settle RX11 2 none) (hE : s.heap.size + 0 ≤ b + G.2.2) (t_v0 : ok G 10 v0) (hk0 : ∀ S, k0 S → J p l e rm_X11_settle s m args below meth c b D cy 2 (zV b D cy below args s G Q) 0 0 G S 0 [(0, .ref (b + v0)), (1, .int v1)] []) (h : f_X11_settle_63 G k0 v0 v1 Q S) : J p l e rm_X11_settle s m args below meth c b D cy 2 (zV b D cy below args s G Q) 0 0 G S 63 [(0, .ref (b + v0)), (1, .int v1)] [] := by
  unfold f_X11_settle_63 at h
  refine jB C [(.aload_n 0, 1, 0)] 64 [(0, .ref (b + v0)), (1, .int v1)] [.ref (b + v0)] (by decide +kernel) rfl rfl ?_
  obtain ⟨a1, e_a1, h⟩ := h
  refine jGetR C 67 (by decide +kernel : decode cX11_settle 64 = .ok (.getfield 51, 3)) rfl t_v0 kX11 26 (by decide) rfl rfl (by decide) wd_1180 e_a1 rfl (fun t_a1 => ?_)
  refine jB C [(.aload_n 0, 1, 0)] 68 [(0, .ref (b + v0)), (1, .int v1)] [.ref (b + v0), .ref (b + a1)] (by decide +kernel) rfl rfl ?_
  obtain ⟨a2, e_a2, h⟩ := h
  refine jGetR C 71 (by decide +kernel : decode cX11_settle 68 = .ok (.getfield 57, 3)) rfl t_v0 kX11 29 (by decide) rfl rfl (by decide) wd_1183 e_a2 rfl (fun t_a2 => ?_)
  refine jB C [(.aload_n 0, 1, 0)] 72 [(0, .ref (b + v0)), (1, .int v1)] [.ref (b + v0), .ref (b + a2), .ref (b + a1)] (by decide +kernel) rfl rfl ?_
  refine jGetI C 75 (by decide +kernel : decode cX11_settle 72 = .ok (.getfield 311, 3)) rfl t_v0 kX11 30 (by decide) rfl rfl (by decide) wd_1184 ?_
  obtain ⟨y3, h⟩ := h
  refine jIald C 76 (by decide +kernel : decode cX11_settle 75 = .ok (.iaload, 1)) rfl t_a2 y3 ?_
  refine jB C [(.aload_n 0, 1, 0)] 77 [(0, .ref (b + v0)), (1, .int v1)] [.ref (b + v0), .int (S.1 a2 (S.1 v0 30).toNatClampNeg), .ref (b + a1)] (by decide +kernel) rfl rfl ?_
  refine jGetI C 80 (by decide +kernel : decode cX11_settle 77 = .ok (.getfield 308, 3)) rfl t_v0 kX11 24 (by decide) rfl rfl (by decide) wd_1178 ?_
  obtain ⟨y4, h⟩ := h
  refine jIast C 81 (by decide +kernel : decode cX11_settle 80 = .ok (.iastore, 1)) rfl hE t_a1 y4 ?_
  refine jTopS (fun S5 e_S5 => ?_)
  have h := h S5 e_S5
  refine jGoto C 0 (by decide +kernel : decode cX11_settle 81 = .ok (.goto (-81), 3)) rfl ?_
  refine jSub [0, 1] rfl ?_
  exact hk0 S5 h
set_option maxHeartbeats 4000000 in
set_option maxRecDepth 100000 in
theorem j_X11_settle_0_n {p : Program} {l : Launch} {e : Env} {s : State} {m : MethodId} {args : Array Value} {below : List Frame} {meth : Method} {c : Code} {b : Nat} {D : va_G} {cy : Nat → ClassId} {G : Gm} {v0 : Nat} {v1 : Int32} {Q : St → Prop} (C : CX p s m args meth c b D cy cX11_settle RX11 2 none) (hE : s.heap.size + 0 ≤ b + G.2.2) (t_v0 : ok G 10 v0) : ∀ k S, f_X11_settle_0_n G v0 v1 Q k S → J p l e rm_X11_settle s m args below meth c b D cy 2 (zV b D cy below args s G Q) 0 0 G S 0 [(0, .ref (b + v0)), (1, .int v1)] [] := by
  intro k
  induction k with
  | zero => intro S h; exact h.elim
  | succ k ih =>
    intro S h
    unfold f_X11_settle_0_n at h
    refine jB C [(.aload_n 0, 1, 0)] 1 [(0, .ref (b + v0)), (1, .int v1)] [.ref (b + v0)] (by decide +kernel) rfl rfl ?_
    refine jGetI C 4 (by decide +kernel : decode cX11_settle 1 = .ok (.getfield 311, 3)) rfl t_v0 kX11 30 (by decide) rfl rfl (by decide) wd_1184 ?_
    refine jIf_le C 7 101 (by decide +kernel : decode cX11_settle 4 = .ok (.ifCond .le 97, 3)) rfl rfl (fun c1 => ?_) (fun c1 => ?_)
    · have h := it1 h c1
      exact jRetV C (by decide +kernel : decode cX11_settle 101 = .ok (.return_, 1)) (Nat.le_refl _) (Nat.le_refl _) ⟨rfl, h⟩
    · have h := it2 h c1
      refine jB C [(.aload_n 0, 1, 0)] 8 [(0, .ref (b + v0)), (1, .int v1)] [.ref (b + v0)] (by decide +kernel) rfl rfl ?_
      obtain ⟨a2, e_a2, h⟩ := h
      refine jGetR C 11 (by decide +kernel : decode cX11_settle 8 = .ok (.getfield 54, 3)) rfl t_v0 kX11 28 (by decide) rfl rfl (by decide) wd_1182 e_a2 rfl (fun t_a2 => ?_)
      refine jB C [(.aload_n 0, 1, 0)] 12 [(0, .ref (b + v0)), (1, .int v1)] [.ref (b + v0), .ref (b + a2)] (by decide +kernel) rfl rfl ?_
      refine jGetI C 15 (by decide +kernel : decode cX11_settle 12 = .ok (.getfield 311, 3)) rfl t_v0 kX11 30 (by decide) rfl rfl (by decide) wd_1184 ?_
      refine jB C [(.iconst 1, 1, 1), (.isub, 1, 0)] 17 [(0, .ref (b + v0)), (1, .int v1)] [.int ((S.1 v0 30) - 1), .ref (b + a2)] (by decide +kernel) rfl rfl ?_
      obtain ⟨y3, h⟩ := h
      refine jIald C 18 (by decide +kernel : decode cX11_settle 17 = .ok (.iaload, 1)) rfl t_a2 y3 ?_
      refine jcS_I C 21 (rest := []) (ok_X11_binds h) (by decide +kernel : decode cX11_settle 18 = .ok (.invokestatic 314, 3)) rfl wd_1600 wd_1601 wd_12 wd_1602 ⟨rfl, rfl⟩ hd_X11_binds ⟨Nat.le_of_ble_eq_true rfl, Nat.le_of_ble_eq_true rfl⟩ rfl rfl (Nat.le_of_ble_eq_true rfl) ⟨Nat.zero_le _, Nat.zero_le _⟩ (fun r5 S4 h => ?_)
      refine jB C [(.iload_n 1, 1, 0)] 22 [(0, .ref (b + v0)), (1, .int v1)] [.int v1, .int r5] (by decide +kernel) rfl rfl ?_
      refine jIcmp_lt C 25 101 (by decide +kernel : decode cX11_settle 22 = .ok (.if_icmp .lt 79, 3)) rfl rfl (fun c6 => ?_) (fun c6 => ?_)
      · have h := it1 h c6
        exact jRetV C (by decide +kernel : decode cX11_settle 101 = .ok (.return_, 1)) (Nat.le_refl _) (Nat.le_refl _) ⟨rfl, h⟩
      · have h := it2 h c6
        refine jB C [(.aload_n 0, 1, 0), (.dup, 1, 0)] 27 [(0, .ref (b + v0)), (1, .int v1)] [.ref (b + v0), .ref (b + v0)] (by decide +kernel) rfl rfl ?_
        refine jGetI C 30 (by decide +kernel : decode cX11_settle 27 = .ok (.getfield 311, 3)) rfl t_v0 kX11 30 (by decide) rfl rfl (by decide) wd_1184 ?_
        refine jB C [(.iconst 1, 1, 1), (.isub, 1, 0)] 32 [(0, .ref (b + v0)), (1, .int v1)] [.int ((S4.1 v0 30) - 1), .ref (b + v0)] (by decide +kernel) rfl rfl ?_
        refine jPutI C 35 (by decide +kernel : decode cX11_settle 32 = .ok (.putfield 311, 3)) rfl hE t_v0 kX11 30 (by decide) rfl rfl (by decide) rfl wd_1184 rfl rfl rfl ?_
        refine jTopS (fun S7 e_S7 => ?_)
        have h := h S7 e_S7
        refine jB C [(.aload_n 0, 1, 0)] 36 [(0, .ref (b + v0)), (1, .int v1)] [.ref (b + v0)] (by decide +kernel) rfl rfl ?_
        obtain ⟨a8, e_a8, h⟩ := h
        refine jGetR C 39 (by decide +kernel : decode cX11_settle 36 = .ok (.getfield 54, 3)) rfl t_v0 kX11 28 (by decide) rfl rfl (by decide) wd_1182 e_a8 rfl (fun t_a8 => ?_)
        refine jB C [(.aload_n 0, 1, 0)] 40 [(0, .ref (b + v0)), (1, .int v1)] [.ref (b + v0), .ref (b + a8)] (by decide +kernel) rfl rfl ?_
        refine jGetI C 43 (by decide +kernel : decode cX11_settle 40 = .ok (.getfield 311, 3)) rfl t_v0 kX11 30 (by decide) rfl rfl (by decide) wd_1184 ?_
        obtain ⟨y9, h⟩ := h
        refine jIald C 44 (by decide +kernel : decode cX11_settle 43 = .ok (.iaload, 1)) rfl t_a8 y9 ?_
        refine jB C [(.bipush 29, 2, 29)] 46 [(0, .ref (b + v0)), (1, .int v1)] [.int 29, .int (S7.1 a8 (S7.1 v0 30).toNatClampNeg)] (by decide +kernel) rfl rfl ?_
        refine jIcmp_eq C 49 63 (by decide +kernel : decode cX11_settle 46 = .ok (.if_icmp .eq 17, 3)) rfl rfl (fun c10 => ?_) (fun c10 => ?_)
        · have h := it1 h c10
          refine jSub [0, 1] rfl ?_
          exact j_X11_settle_63 C hE t_v0 ih h
        · have h := it2 h c10
          refine jB C [(.aload_n 0, 1, 0)] 50 [(0, .ref (b + v0)), (1, .int v1)] [.ref (b + v0)] (by decide +kernel) rfl rfl ?_
          obtain ⟨a11, e_a11, h⟩ := h
          refine jGetR C 53 (by decide +kernel : decode cX11_settle 50 = .ok (.getfield 54, 3)) rfl t_v0 kX11 28 (by decide) rfl rfl (by decide) wd_1182 e_a11 rfl (fun t_a11 => ?_)
          refine jB C [(.aload_n 0, 1, 0)] 54 [(0, .ref (b + v0)), (1, .int v1)] [.ref (b + v0), .ref (b + a11)] (by decide +kernel) rfl rfl ?_
          refine jGetI C 57 (by decide +kernel : decode cX11_settle 54 = .ok (.getfield 311, 3)) rfl t_v0 kX11 30 (by decide) rfl rfl (by decide) wd_1184 ?_
          obtain ⟨y12, h⟩ := h
          refine jIald C 58 (by decide +kernel : decode cX11_settle 57 = .ok (.iaload, 1)) rfl t_a11 y12 ?_
          refine jB C [(.bipush 30, 2, 30)] 60 [(0, .ref (b + v0)), (1, .int v1)] [.int 30, .int (S7.1 a11 (S7.1 v0 30).toNatClampNeg)] (by decide +kernel) rfl rfl ?_
          refine jIcmp_ne C 63 84 (by decide +kernel : decode cX11_settle 60 = .ok (.if_icmp .ne 24, 3)) rfl rfl (fun c13 => ?_) (fun c13 => ?_)
          · have h := it2 h c13
            refine jB C [(.aload_n 0, 1, 0), (.aload_n 0, 1, 0)] 86 [(0, .ref (b + v0)), (1, .int v1)] [.ref (b + v0), .ref (b + v0)] (by decide +kernel) rfl rfl ?_
            obtain ⟨a14, e_a14, h⟩ := h
            refine jGetR C 89 (by decide +kernel : decode cX11_settle 86 = .ok (.getfield 54, 3)) rfl t_v0 kX11 28 (by decide) rfl rfl (by decide) wd_1182 e_a14 rfl (fun t_a14 => ?_)
            refine jB C [(.aload_n 0, 1, 0)] 90 [(0, .ref (b + v0)), (1, .int v1)] [.ref (b + v0), .ref (b + a14), .ref (b + v0)] (by decide +kernel) rfl rfl ?_
            refine jGetI C 93 (by decide +kernel : decode cX11_settle 90 = .ok (.getfield 311, 3)) rfl t_v0 kX11 30 (by decide) rfl rfl (by decide) wd_1184 ?_
            obtain ⟨y15, h⟩ := h
            refine jIald C 94 (by decide +kernel : decode cX11_settle 93 = .ok (.iaload, 1)) rfl t_a14 y15 ?_
            refine jB C [(.iconst 0, 1, 0)] 95 [(0, .ref (b + v0)), (1, .int v1)] [.int 0, .int (S7.1 a14 (S7.1 v0 30).toNatClampNeg), .ref (b + v0)] (by decide +kernel) rfl rfl ?_
            refine jcV_V C 98 (rest := []) (ok_X11_emit t_v0 h) (by decide +kernel : decode cX11_settle 95 = .ok (.invokevirtual 317, 3)) rfl wd_1588 wd_1590 wp_134 wd_12 wd_1591 ⟨rfl, rfl⟩ hd_X11_emit ⟨Nat.le_of_ble_eq_true rfl, Nat.le_of_ble_eq_true rfl⟩ t_v0 kX11 (by decide) rfl rfl rfl (Nat.le_of_ble_eq_true rfl) ⟨Nat.zero_le _, Nat.zero_le _⟩ (fun S16 h => ?_)
            refine jGoto C 0 (by decide +kernel : decode cX11_settle 98 = .ok (.goto (-98), 3)) rfl ?_
            refine jSub [0, 1] rfl ?_
            exact ih S16 h
          · have h := it1 h c13
            refine jSub [0, 1] rfl ?_
            exact j_X11_settle_63 C hE t_v0 ih h
theorem j_X11_settle_0 {p : Program} {l : Launch} {e : Env} {s : State} {m : MethodId} {args : Array Value} {below : List Frame} {meth : Method} {c : Code} {b : Nat} {D : va_G} {cy : Nat → ClassId} {G : Gm} {v0 : Nat} {v1 : Int32} {S : St} {Q : St → Prop} (C : CX p s m args meth c b D cy cX11_settle RX11 2 none) (hE : s.heap.size + 0 ≤ b + G.2.2) (t_v0 : ok G 10 v0) (h : f_X11_settle_0 G v0 v1 Q S) : J p l e rm_X11_settle s m args below meth c b D cy 2 (zV b D cy below args s G Q) 0 0 G S 0 [(0, .ref (b + v0)), (1, .int v1)] [] := by
  obtain ⟨k, h⟩ := h
  exact j_X11_settle_0_n C hE t_v0 k S h
theorem ok_X11_settle {G : Gm} {v0 : Nat} {v1 : Int32} {S : St} {Q : St → Prop}  (t_v0 : ok G 10 v0) (h : f_X11_settle G v0 v1 Q S) : MT yX11_settle cX11_settle 2 none rm_X11_settle 0 0 (fun b => [.ref (b + v0), .int v1]) G S (QV (fun G1 S1 => G1 = G ∧ Q S1)) := MT.ofJ (by decide +kernel) (fun b => [(0, .ref (b + v0)), (1, .int v1)]) (fun b => rfl) (fun b => Nat.le_of_ble_eq_true rfl) (fun l b D cy p e s m below meth c C hE hn => j_X11_settle_0 C hE t_v0 h)
theorem hd_X11_settle : yX11_settle.cls ≠ "java/lang/invoke/MethodHandle" ∧ yX11_settle.cls ≠ "java/lang/invoke/VarHandle" ∧ (parseMethodDescriptor yX11_settle.desc).map (fun d => d.parameters.length) = some 1 := by decide +kernel
abbrev rm_X11_push : Room := { frames := 0, cells := 0, slots := 0, locals := 0 }
set_option maxHeartbeats 4000000 in
set_option maxRecDepth 100000 in
theorem j_X11_push {p : Program} {l : Launch} {e : Env} {s : State} {m : MethodId} {args : Array Value} {below : List Frame} {meth : Method} {c : Code} {b : Nat} {D : va_G} {cy : Nat → ClassId} {G : Gm} {v0 : Nat} {v1 : Int32} {v2 : Int32} {S : St} {Q : St → Prop} (C : CX p s m args meth c b D cy cX11_push RX11 3 none) (hE : s.heap.size + 0 ≤ b + G.2.2) (t_v0 : ok G 10 v0) (h : f_X11_push G v0 v1 v2 Q S) : J p l e rm_X11_push s m args below meth c b D cy 3 (zV b D cy below args s G Q) 0 0 G S 0 [(0, .ref (b + v0)), (1, .int v1), (2, .int v2)] [] := by
  unfold f_X11_push at h
  refine jB C [(.aload_n 0, 1, 0)] 1 [(0, .ref (b + v0)), (1, .int v1), (2, .int v2)] [.ref (b + v0)] (by decide +kernel) rfl rfl ?_
  obtain ⟨a1, e_a1, h⟩ := h
  refine jGetR C 4 (by decide +kernel : decode cX11_push 1 = .ok (.getfield 54, 3)) rfl t_v0 kX11 28 (by decide) rfl rfl (by decide) wd_1182 e_a1 rfl (fun t_a1 => ?_)
  refine jB C [(.aload_n 0, 1, 0)] 5 [(0, .ref (b + v0)), (1, .int v1), (2, .int v2)] [.ref (b + v0), .ref (b + a1)] (by decide +kernel) rfl rfl ?_
  refine jGetI C 8 (by decide +kernel : decode cX11_push 5 = .ok (.getfield 311, 3)) rfl t_v0 kX11 30 (by decide) rfl rfl (by decide) wd_1184 ?_
  refine jB C [(.iload_n 1, 1, 0)] 9 [(0, .ref (b + v0)), (1, .int v1), (2, .int v2)] [.int v1, .int (S.1 v0 30), .ref (b + a1)] (by decide +kernel) rfl rfl ?_
  obtain ⟨y2, h⟩ := h
  refine jIast C 10 (by decide +kernel : decode cX11_push 9 = .ok (.iastore, 1)) rfl hE t_a1 y2 ?_
  refine jTopS (fun S3 e_S3 => ?_)
  have h := h S3 e_S3
  refine jB C [(.aload_n 0, 1, 0)] 11 [(0, .ref (b + v0)), (1, .int v1), (2, .int v2)] [.ref (b + v0)] (by decide +kernel) rfl rfl ?_
  obtain ⟨a4, e_a4, h⟩ := h
  refine jGetR C 14 (by decide +kernel : decode cX11_push 11 = .ok (.getfield 57, 3)) rfl t_v0 kX11 29 (by decide) rfl rfl (by decide) wd_1183 e_a4 rfl (fun t_a4 => ?_)
  refine jB C [(.aload_n 0, 1, 0)] 15 [(0, .ref (b + v0)), (1, .int v1), (2, .int v2)] [.ref (b + v0), .ref (b + a4)] (by decide +kernel) rfl rfl ?_
  refine jGetI C 18 (by decide +kernel : decode cX11_push 15 = .ok (.getfield 311, 3)) rfl t_v0 kX11 30 (by decide) rfl rfl (by decide) wd_1184 ?_
  refine jB C [(.iload_n 2, 1, 0)] 19 [(0, .ref (b + v0)), (1, .int v1), (2, .int v2)] [.int v2, .int (S3.1 v0 30), .ref (b + a4)] (by decide +kernel) rfl rfl ?_
  obtain ⟨y5, h⟩ := h
  refine jIast C 20 (by decide +kernel : decode cX11_push 19 = .ok (.iastore, 1)) rfl hE t_a4 y5 ?_
  refine jTopS (fun S6 e_S6 => ?_)
  have h := h S6 e_S6
  refine jB C [(.aload_n 0, 1, 0), (.dup, 1, 0)] 22 [(0, .ref (b + v0)), (1, .int v1), (2, .int v2)] [.ref (b + v0), .ref (b + v0)] (by decide +kernel) rfl rfl ?_
  refine jGetI C 25 (by decide +kernel : decode cX11_push 22 = .ok (.getfield 311, 3)) rfl t_v0 kX11 30 (by decide) rfl rfl (by decide) wd_1184 ?_
  refine jB C [(.iconst 1, 1, 1), (.iadd, 1, 0)] 27 [(0, .ref (b + v0)), (1, .int v1), (2, .int v2)] [.int ((S6.1 v0 30) + 1), .ref (b + v0)] (by decide +kernel) rfl rfl ?_
  refine jPutI C 30 (by decide +kernel : decode cX11_push 27 = .ok (.putfield 311, 3)) rfl hE t_v0 kX11 30 (by decide) rfl rfl (by decide) rfl wd_1184 rfl rfl rfl ?_
  refine jTopS (fun S7 e_S7 => ?_)
  have h := h S7 e_S7
  exact jRetV C (by decide +kernel : decode cX11_push 30 = .ok (.return_, 1)) (Nat.le_refl _) (Nat.le_refl _) ⟨rfl, h⟩
theorem ok_X11_push {G : Gm} {v0 : Nat} {v1 : Int32} {v2 : Int32} {S : St} {Q : St → Prop}  (t_v0 : ok G 10 v0) (h : f_X11_push G v0 v1 v2 Q S) : MT yX11_push cX11_push 3 none rm_X11_push 0 0 (fun b => [.ref (b + v0), .int v1, .int v2]) G S (QV (fun G1 S1 => G1 = G ∧ Q S1)) := MT.ofJ (by decide +kernel) (fun b => [(0, .ref (b + v0)), (1, .int v1), (2, .int v2)]) (fun b => rfl) (fun b => Nat.le_of_ble_eq_true rfl) (fun l b D cy p e s m below meth c C hE hn => j_X11_push C hE t_v0 h)
theorem hd_X11_push : yX11_push.cls ≠ "java/lang/invoke/MethodHandle" ∧ yX11_push.cls ≠ "java/lang/invoke/VarHandle" ∧ (parseMethodDescriptor yX11_push.desc).map (fun d => d.parameters.length) = some 2 := by decide +kernel
abbrev rm_X11_inner : Room := { frames := 0, cells := 0, slots := 0, locals := 0 }
set_option maxHeartbeats 4000000 in
set_option maxRecDepth 100000 in
theorem j_X11_inner_4_n {p : Program} {l : Launch} {e : Env} {s : State} {m : MethodId} {args : Array Value} {below : List Frame} {meth : Method} {c : Code} {b : Nat} {D : va_G} {cy : Nat → ClassId} {G : Gm} {v0 : Nat} {Q : Int32 → St → Prop} (C : CX p s m args meth c b D cy cX11_inner RX11 3 (some .int)) (hE : s.heap.size + 0 ≤ b + G.2.2) (t_v0 : ok G 10 v0) : ∀ k (v1 : Int32) (v2 : Int32) S, f_X11_inner_4_n G v0 Q k v1 v2 S → J p l e rm_X11_inner s m args below meth c b D cy 3 (zI b D cy below args s G Q) 0 0 G S 4 [(0, .ref (b + v0)), (1, .int v1), (2, .int v2)] [] := by
  intro k
  induction k with
  | zero => intro v1 v2 S h; exact h.elim
  | succ k ih =>
    intro v1 v2 S h
    unfold f_X11_inner_4_n at h
    refine jB C [(.iload_n 2, 1, 0), (.aload_n 0, 1, 0)] 6 [(0, .ref (b + v0)), (1, .int v1), (2, .int v2)] [.ref (b + v0), .int v2] (by decide +kernel) rfl rfl ?_
    refine jGetI C 9 (by decide +kernel : decode cX11_inner 6 = .ok (.getfield 311, 3)) rfl t_v0 kX11 30 (by decide) rfl rfl (by decide) wd_1184 ?_
    refine jIcmp_ge C 12 40 (by decide +kernel : decode cX11_inner 9 = .ok (.if_icmp .ge 31, 3)) rfl rfl (fun c1 => ?_) (fun c1 => ?_)
    · have h := it1 h c1
      refine jB C [(.iload_n 1, 1, 0)] 41 [(0, .ref (b + v0)), (1, .int v1), (2, .int v2)] [.int v1] (by decide +kernel) rfl rfl ?_
      exact jRetI C (by decide +kernel : decode cX11_inner 41 = .ok (.ireturn, 1)) (Nat.le_refl _) (Nat.le_refl _) ⟨rfl, h⟩
    · have h := it2 h c1
      refine jB C [(.aload_n 0, 1, 0)] 13 [(0, .ref (b + v0)), (1, .int v1), (2, .int v2)] [.ref (b + v0)] (by decide +kernel) rfl rfl ?_
      obtain ⟨a2, e_a2, h⟩ := h
      refine jGetR C 16 (by decide +kernel : decode cX11_inner 13 = .ok (.getfield 54, 3)) rfl t_v0 kX11 28 (by decide) rfl rfl (by decide) wd_1182 e_a2 rfl (fun t_a2 => ?_)
      refine jB C [(.iload_n 2, 1, 0)] 17 [(0, .ref (b + v0)), (1, .int v1), (2, .int v2)] [.int v2, .ref (b + a2)] (by decide +kernel) rfl rfl ?_
      obtain ⟨y3, h⟩ := h
      refine jIald C 18 (by decide +kernel : decode cX11_inner 17 = .ok (.iaload, 1)) rfl t_a2 y3 ?_
      refine jB C [(.bipush 31, 2, 31)] 20 [(0, .ref (b + v0)), (1, .int v1), (2, .int v2)] [.int 31, .int (S.1 a2 v2.toNatClampNeg)] (by decide +kernel) rfl rfl ?_
      refine jIcmp_lt C 23 32 (by decide +kernel : decode cX11_inner 20 = .ok (.if_icmp .lt 12, 3)) rfl rfl (fun c4 => ?_) (fun c4 => ?_)
      · have h := it1 h c4
        refine jB C [(.iload_n 1, 1, 0), (.istore_n 1, 1, 0), (.iinc 2 1, 3, 1)] 37 [(2, .int (v2 + 1)), (1, .int v1), (0, .ref (b + v0))] [] (by decide +kernel) rfl rfl ?_
        refine jGoto C 4 (by decide +kernel : decode cX11_inner 37 = .ok (.goto (-33), 3)) rfl ?_
        refine jSub [2, 1, 0] rfl ?_
        exact ih v1 (v2 + 1) S h
      · have h := it2 h c4
        refine jB C [(.aload_n 0, 1, 0)] 24 [(0, .ref (b + v0)), (1, .int v1), (2, .int v2)] [.ref (b + v0)] (by decide +kernel) rfl rfl ?_
        obtain ⟨a5, e_a5, h⟩ := h
        refine jGetR C 27 (by decide +kernel : decode cX11_inner 24 = .ok (.getfield 54, 3)) rfl t_v0 kX11 28 (by decide) rfl rfl (by decide) wd_1182 e_a5 rfl (fun t_a5 => ?_)
        refine jB C [(.iload_n 2, 1, 0)] 28 [(0, .ref (b + v0)), (1, .int v1), (2, .int v2)] [.int v2, .ref (b + a5)] (by decide +kernel) rfl rfl ?_
        obtain ⟨y6, h⟩ := h
        refine jIald C 29 (by decide +kernel : decode cX11_inner 28 = .ok (.iaload, 1)) rfl t_a5 y6 ?_
        refine jGoto C 33 (by decide +kernel : decode cX11_inner 29 = .ok (.goto 4, 3)) rfl ?_
        refine jTopI (fun x7 e_x7 => ?_)
        have h := h x7 e_x7
        refine jB C [(.istore_n 1, 1, 0), (.iinc 2 1, 3, 1)] 37 [(2, .int (v2 + 1)), (1, .int x7), (0, .ref (b + v0))] [] (by decide +kernel) rfl rfl ?_
        refine jGoto C 4 (by decide +kernel : decode cX11_inner 37 = .ok (.goto (-33), 3)) rfl ?_
        refine jSub [2, 1, 0] rfl ?_
        exact ih x7 (v2 + 1) S h
theorem j_X11_inner_4 {p : Program} {l : Launch} {e : Env} {s : State} {m : MethodId} {args : Array Value} {below : List Frame} {meth : Method} {c : Code} {b : Nat} {D : va_G} {cy : Nat → ClassId} {G : Gm} {v0 : Nat} {v1 : Int32} {v2 : Int32} {S : St} {Q : Int32 → St → Prop} (C : CX p s m args meth c b D cy cX11_inner RX11 3 (some .int)) (hE : s.heap.size + 0 ≤ b + G.2.2) (t_v0 : ok G 10 v0) (h : f_X11_inner_4 G v0 Q v1 v2 S) : J p l e rm_X11_inner s m args below meth c b D cy 3 (zI b D cy below args s G Q) 0 0 G S 4 [(0, .ref (b + v0)), (1, .int v1), (2, .int v2)] [] := by
  obtain ⟨k, h⟩ := h
  exact j_X11_inner_4_n C hE t_v0 k v1 v2 S h
set_option maxHeartbeats 4000000 in
set_option maxRecDepth 100000 in
theorem j_X11_inner {p : Program} {l : Launch} {e : Env} {s : State} {m : MethodId} {args : Array Value} {below : List Frame} {meth : Method} {c : Code} {b : Nat} {D : va_G} {cy : Nat → ClassId} {G : Gm} {v0 : Nat} {S : St} {Q : Int32 → St → Prop} (C : CX p s m args meth c b D cy cX11_inner RX11 3 (some .int)) (hE : s.heap.size + 0 ≤ b + G.2.2) (t_v0 : ok G 10 v0) (h : f_X11_inner G v0 Q S) : J p l e rm_X11_inner s m args below meth c b D cy 3 (zI b D cy below args s G Q) 0 0 G S 0 [(0, .ref (b + v0))] [] := by
  unfold f_X11_inner at h
  refine jB C [(.iconst (-1), 1, (-1)), (.istore_n 1, 1, 0), (.iconst 0, 1, 0), (.istore_n 2, 1, 0)] 4 [(2, .int 0), (1, .int (-1)), (0, .ref (b + v0))] [] (by decide +kernel) rfl rfl ?_
  refine jSub [2, 1, 0] rfl ?_
  exact j_X11_inner_4 C hE t_v0 h
theorem ok_X11_inner {G : Gm} {v0 : Nat} {S : St} {Q : Int32 → St → Prop}  (t_v0 : ok G 10 v0) (h : f_X11_inner G v0 Q S) : MT yX11_inner cX11_inner 3 (some .int) rm_X11_inner 0 0 (fun b => [.ref (b + v0)]) G S (QI (fun r G1 S1 => G1 = G ∧ Q r S1)) := MT.ofJ (by decide +kernel) (fun b => [(0, .ref (b + v0))]) (fun b => rfl) (fun b => Nat.le_of_ble_eq_true rfl) (fun l b D cy p e s m below meth c C hE hn => j_X11_inner C hE t_v0 h)
theorem hd_X11_inner : yX11_inner.cls ≠ "java/lang/invoke/MethodHandle" ∧ yX11_inner.cls ≠ "java/lang/invoke/VarHandle" ∧ (parseMethodDescriptor yX11_inner.desc).map (fun d => d.parameters.length) = some 0 := by decide +kernel
