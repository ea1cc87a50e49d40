abbrev rm_X11_nextLens : Room := { frames := 0, cells := 0, slots := 0, locals := 0 }
set_option maxHeartbeats 4000000 in
set_option maxRecDepth 100000 in
theorem j_X11_nextLens_2_n {p : Program} {l : Launch} {e : Env} {s : State} {m : MethodId} {args : Array Value} {below : List Frame} {meth : Method} {c : Code} {b : Nat} {D : va_G} {cy : Nat → ClassId} {G : Gm} {v0 : Nat} {v1 : Int32} {Q : Int32 → St → Prop} (C : CX p s m args meth c b D cy cX11_nextLens RX11 3 (some .int)) (hE : s.heap.size + 0 ≤ b + G.2.2) (t_v0 : ok G 10 v0) : ∀ k (v2 : Int32) S, f_X11_nextLens_2_n G v0 v1 Q k v2 S → J p l e rm_X11_nextLens s m args below meth c b D cy 3 (zI b D cy below args s G Q) 0 0 G S 2 [(0, .ref (b + v0)), (1, .int v1), (2, .int v2)] [] := by
  intro k
  induction k with
  | zero => intro v2 S h; exact h.elim
  | succ k ih =>
    intro v2 S h
    unfold f_X11_nextLens_2_n at h
    refine jB C [(.aload_n 0, 1, 0)] 3 [(0, .ref (b + v0)), (1, .int v1), (2, .int v2)] [.ref (b + v0)] (by decide +kernel) rfl rfl ?_
    obtain ⟨a1, e_a1, h⟩ := h
    refine jGetR C 6 (by decide +kernel : decode cX11_nextLens 3 = .ok (.getfield 120, 3)) rfl t_v0 kX11 45 (by decide) rfl rfl (by decide) wd_1199 e_a1 rfl (fun t_a1 => ?_)
    refine jB C [(.aload_n 0, 1, 0)] 7 [(0, .ref (b + v0)), (1, .int v1), (2, .int v2)] [.ref (b + v0), .ref (b + a1)] (by decide +kernel) rfl rfl ?_
    obtain ⟨a2, e_a2, h⟩ := h
    refine jGetR C 10 (by decide +kernel : decode cX11_nextLens 7 = .ok (.getfield 13, 3)) rfl t_v0 kX11 3 (by decide) rfl rfl (by decide) wd_1157 e_a2 rfl (fun t_a2 => ?_)
    refine jB C [(.sipush 256, 3, 256), (.iload_n 2, 1, 0), (.imul, 1, 0), (.iload_n 1, 1, 0), (.iadd, 1, 0)] 17 [(0, .ref (b + v0)), (1, .int v1), (2, .int v2)] [.int ((256 * v2) + v1), .ref (b + a2), .ref (b + a1)] (by decide +kernel) rfl rfl ?_
    obtain ⟨y3, h⟩ := h
    refine jIald C 18 (by decide +kernel : decode cX11_nextLens 17 = .ok (.iaload, 1)) rfl t_a2 y3 ?_
    obtain ⟨y4, h⟩ := h
    refine jIald C 19 (by decide +kernel : decode cX11_nextLens 18 = .ok (.iaload, 1)) rfl t_a1 y4 ?_
    refine jB C [(.iconst 1, 1, 1), (.iadd, 1, 0), (.aload_n 0, 1, 0)] 22 [(0, .ref (b + v0)), (1, .int v1), (2, .int v2)] [.ref (b + v0), .int ((S.1 a1 (S.1 a2 ((256 * v2) + v1).toNatClampNeg).toNatClampNeg) + 1)] (by decide +kernel) rfl rfl ?_
    obtain ⟨a5, e_a5, h⟩ := h
    refine jGetR C 25 (by decide +kernel : decode cX11_nextLens 22 = .ok (.getfield 120, 3)) rfl t_v0 kX11 45 (by decide) rfl rfl (by decide) wd_1199 e_a5 rfl (fun t_a5 => ?_)
    refine jB C [(.iload_n 1, 1, 0)] 26 [(0, .ref (b + v0)), (1, .int v1), (2, .int v2)] [.int v1, .ref (b + a5), .int ((S.1 a1 (S.1 a2 ((256 * v2) + v1).toNatClampNeg).toNatClampNeg) + 1)] (by decide +kernel) rfl rfl ?_
    obtain ⟨y6, h⟩ := h
    refine jIald C 27 (by decide +kernel : decode cX11_nextLens 26 = .ok (.iaload, 1)) rfl t_a5 y6 ?_
    refine jIcmp_eq C 30 36 (by decide +kernel : decode cX11_nextLens 27 = .ok (.if_icmp .eq 9, 3)) rfl rfl (fun c7 => ?_) (fun c7 => ?_)
    · have h := it1 h c7
      refine jB C [(.iload_n 2, 1, 0)] 37 [(0, .ref (b + v0)), (1, .int v1), (2, .int v2)] [.int v2] (by decide +kernel) rfl rfl ?_
      exact jRetI C (by decide +kernel : decode cX11_nextLens 37 = .ok (.ireturn, 1)) (Nat.le_refl _) (Nat.le_refl _) ⟨rfl, h⟩
    · have h := it2 h c7
      refine jB C [(.iinc 2 1, 3, 1)] 33 [(2, .int (v2 + 1)), (0, .ref (b + v0)), (1, .int v1)] [] (by decide +kernel) rfl rfl ?_
      refine jGoto C 2 (by decide +kernel : decode cX11_nextLens 33 = .ok (.goto (-31), 3)) rfl ?_
      refine jSub [1, 2, 0] rfl ?_
      exact ih (v2 + 1) S h
theorem j_X11_nextLens_2 {p : Program} {l : Launch} {e : Env} {s : State} {m : MethodId} {args : Array Value} {below : List Frame} {meth : Method} {c : Code} {b : Nat} {D : va_G} {cy : Nat → ClassId} {G : Gm} {v0 : Nat} {v1 : Int32} {v2 : Int32} {S : St} {Q : Int32 → St → Prop} (C : CX p s m args meth c b D cy cX11_nextLens RX11 3 (some .int)) (hE : s.heap.size + 0 ≤ b + G.2.2) (t_v0 : ok G 10 v0) (h : f_X11_nextLens_2 G v0 v1 Q v2 S) : J p l e rm_X11_nextLens s m args below meth c b D cy 3 (zI b D cy below args s G Q) 0 0 G S 2 [(0, .ref (b + v0)), (1, .int v1), (2, .int v2)] [] := by
  obtain ⟨k, h⟩ := h
  exact j_X11_nextLens_2_n C hE t_v0 k v2 S h
set_option maxHeartbeats 4000000 in
set_option maxRecDepth 100000 in
theorem j_X11_nextLens {p : Program} {l : Launch} {e : Env} {s : State} {m : MethodId} {args : Array Value} {below : List Frame} {meth : Method} {c : Code} {b : Nat} {D : va_G} {cy : Nat → ClassId} {G : Gm} {v0 : Nat} {v1 : Int32} {S : St} {Q : Int32 → St → Prop} (C : CX p s m args meth c b D cy cX11_nextLens RX11 3 (some .int)) (hE : s.heap.size + 0 ≤ b + G.2.2) (t_v0 : ok G 10 v0) (h : f_X11_nextLens G v0 v1 Q S) : J p l e rm_X11_nextLens s m args below meth c b D cy 3 (zI b D cy below args s G Q) 0 0 G S 0 [(0, .ref (b + v0)), (1, .int v1)] [] := by
  unfold f_X11_nextLens at h
  refine jB C [(.iconst 0, 1, 0), (.istore_n 2, 1, 0)] 2 [(2, .int 0), (0, .ref (b + v0)), (1, .int v1)] [] (by decide +kernel) rfl rfl ?_
  refine jSub [1, 2, 0] rfl ?_
  exact j_X11_nextLens_2 C hE t_v0 h
theorem ok_X11_nextLens {G : Gm} {v0 : Nat} {v1 : Int32} {S : St} {Q : Int32 → St → Prop}  (t_v0 : ok G 10 v0) (h : f_X11_nextLens G v0 v1 Q S) : MT yX11_nextLens cX11_nextLens 3 (some .int) rm_X11_nextLens 0 0 (fun b => [.ref (b + v0), .int v1]) G S (QI (fun r G1 S1 => G1 = G ∧ Q r S1)) := MT.ofJ (by decide +kernel) (fun b => [(0, .ref (b + v0)), (1, .int v1)]) (fun b => rfl) (fun b => Nat.le_of_ble_eq_true rfl) (fun l b D cy p e s m below meth c C hE hn => j_X11_nextLens C hE t_v0 h)
theorem hd_X11_nextLens : yX11_nextLens.cls ≠ "java/lang/invoke/MethodHandle" ∧ yX11_nextLens.cls ≠ "java/lang/invoke/VarHandle" ∧ (parseMethodDescriptor yX11_nextLens.desc).map (fun d => d.parameters.length) = some 1 := by decide +kernel
abbrev rm_X11_cure : Room := { frames := 3, cells := 0, slots := 0, locals := 66 }
set_option maxHeartbeats 4000000 in
set_option maxRecDepth 100000 in
theorem j_X11_cure_65_n {p : Program} {l : Launch} {e : Env} {s : State} {m : MethodId} {args : Array Value} {below : List Frame} {meth : Method} {c : Code} {b : Nat} {D : va_G} {cy : Nat → ClassId} {G : Gm} {v0 : Nat} {v2 : Int32} {Q : Int32 → St → Prop} (C : CX p s m args meth c b D cy cX11_cure RX11 6 (some .int)) (hE : s.heap.size + 0 ≤ b + G.2.2) (t_v0 : ok G 10 v0) : ∀ k (v3 : Int32) (v5 : Int32) S, f_X11_cure_65_n G v0 v2 Q k v3 v5 S → J p l e rm_X11_cure s m args below meth c b D cy 6 (zI b D cy below args s G Q) 0 0 G S 65 [(0, .ref (b + v0)), (2, .int v2), (3, .int v3), (5, .int v5)] [] := by
  intro k
  induction k with
  | zero => intro v3 v5 S h; exact h.elim
  | succ k ih =>
    intro v3 v5 S h
    unfold f_X11_cure_65_n at h
    refine jB C [(.iload 5, 2, 0), (.iload_n 2, 1, 0)] 68 [(0, .ref (b + v0)), (2, .int v2), (3, .int v3), (5, .int v5)] [.int v2, .int v5] (by decide +kernel) rfl rfl ?_
    refine jIcmp_ge C 71 94 (by decide +kernel : decode cX11_cure 68 = .ok (.if_icmp .ge 26, 3)) rfl rfl (fun c1 => ?_) (fun c1 => ?_)
    · have h := it1 h c1
      refine jB C [(.aload_n 0, 1, 0), (.iload_n 3, 1, 0)] 96 [(0, .ref (b + v0)), (2, .int v2), (3, .int v3), (5, .int v5)] [.int v3, .ref (b + v0)] (by decide +kernel) rfl rfl ?_
      refine jcV_I C 99 (rest := []) (ok_X11_nextLens t_v0 h) (by decide +kernel : decode cX11_cure 96 = .ok (.invokevirtual 499, 3)) rfl wd_1712 wd_1714 wp_155 wd_12 wd_1715 ⟨rfl, rfl⟩ hd_X11_nextLens ⟨Nat.le_of_ble_eq_true rfl, Nat.le_of_ble_eq_true rfl⟩ t_v0 kX11 (by decide) rfl rfl rfl (Nat.le_of_ble_eq_true rfl) ⟨Nat.zero_le _, Nat.zero_le _⟩ (fun r3 S2 h => ?_)
      exact jRetI C (by decide +kernel : decode cX11_cure 99 = .ok (.ireturn, 1)) (Nat.le_refl _) (Nat.le_refl _) ⟨rfl, h⟩
    · have h := it2 h c1
      refine jB C [(.aload_n 0, 1, 0)] 72 [(0, .ref (b + v0)), (2, .int v2), (3, .int v3), (5, .int v5)] [.ref (b + v0)] (by decide +kernel) rfl rfl ?_
      obtain ⟨a4, e_a4, h⟩ := h
      refine jGetR C 75 (by decide +kernel : decode cX11_cure 72 = .ok (.getfield 13, 3)) rfl t_v0 kX11 3 (by decide) rfl rfl (by decide) wd_1157 e_a4 rfl (fun t_a4 => ?_)
      refine jB C [(.sipush 256, 3, 256), (.aload_n 0, 1, 0), (.iload_n 3, 1, 0)] 80 [(0, .ref (b + v0)), (2, .int v2), (3, .int v3), (5, .int v5)] [.int v3, .ref (b + v0), .int 256, .ref (b + a4)] (by decide +kernel) rfl rfl ?_
      refine jcV_I C 83 (rest := [.int 256, .ref (b + a4)]) (ok_X11_nextLens t_v0 h) (by decide +kernel : decode cX11_cure 80 = .ok (.invokevirtual 499, 3)) rfl wd_1712 wd_1714 wp_155 wd_12 wd_1715 ⟨rfl, rfl⟩ hd_X11_nextLens ⟨Nat.le_of_ble_eq_true rfl, Nat.le_of_ble_eq_true rfl⟩ t_v0 kX11 (by decide) rfl rfl rfl (Nat.le_of_ble_eq_true rfl) ⟨Nat.zero_le _, Nat.zero_le _⟩ (fun r6 S5 h => ?_)
      refine jB C [(.imul, 1, 0), (.iload_n 3, 1, 0), (.iadd, 1, 0)] 86 [(0, .ref (b + v0)), (2, .int v2), (3, .int v3), (5, .int v5)] [.int ((256 * r6) + v3), .ref (b + a4)] (by decide +kernel) rfl rfl ?_
      obtain ⟨y7, h⟩ := h
      refine jIald C 87 (by decide +kernel : decode cX11_cure 86 = .ok (.iaload, 1)) rfl t_a4 y7 ?_
      refine jTopI (fun x8 e_x8 => ?_)
      have h := h x8 e_x8
      refine jB C [(.istore_n 3, 1, 0), (.iinc 5 1, 3, 1)] 91 [(5, .int (v5 + 1)), (3, .int x8), (0, .ref (b + v0)), (2, .int v2)] [] (by decide +kernel) rfl rfl ?_
      refine jGoto C 65 (by decide +kernel : decode cX11_cure 91 = .ok (.goto (-26), 3)) rfl ?_
      refine jSub [2, 3, 1, 0] rfl ?_
      exact ih x8 (v5 + 1) S5 h
theorem j_X11_cure_65 {p : Program} {l : Launch} {e : Env} {s : State} {m : MethodId} {args : Array Value} {below : List Frame} {meth : Method} {c : Code} {b : Nat} {D : va_G} {cy : Nat → ClassId} {G : Gm} {v0 : Nat} {v2 : Int32} {v3 : Int32} {v5 : Int32} {S : St} {Q : Int32 → St → Prop} (C : CX p s m args meth c b D cy cX11_cure RX11 6 (some .int)) (hE : s.heap.size + 0 ≤ b + G.2.2) (t_v0 : ok G 10 v0) (h : f_X11_cure_65 G v0 v2 Q v3 v5 S) : J p l e rm_X11_cure s m args below meth c b D cy 6 (zI b D cy below args s G Q) 0 0 G S 65 [(0, .ref (b + v0)), (2, .int v2), (3, .int v3), (5, .int v5)] [] := by
  obtain ⟨k, h⟩ := h
  exact j_X11_cure_65_n C hE t_v0 k v3 v5 S h
set_option maxHeartbeats 4000000 in
set_option maxRecDepth 100000 in
theorem j_X11_cure {p : Program} {l : Launch} {e : Env} {s : State} {m : MethodId} {args : Array Value} {below : List Frame} {meth : Method} {c : Code} {b : Nat} {D : va_G} {cy : Nat → ClassId} {G : Gm} {v0 : Nat} {v1 : Int32} {v2 : Int32} {S : St} {Q : Int32 → St → Prop} (C : CX p s m args meth c b D cy cX11_cure RX11 6 (some .int)) (hE : s.heap.size + 0 ≤ b + G.2.2) (t_v0 : ok G 10 v0) (h : f_X11_cure G v0 v1 v2 Q S) : J p l e rm_X11_cure s m args below meth c b D cy 6 (zI b D cy below args s G Q) 0 0 G S 0 [(0, .ref (b + v0)), (1, .int v1), (2, .int v2)] [] := by
  unfold f_X11_cure at h
  refine jB C [(.aload_n 0, 1, 0), (.iconst 0, 1, 0)] 2 [(0, .ref (b + v0)), (1, .int v1), (2, .int v2)] [.int 0, .ref (b + v0)] (by decide +kernel) rfl rfl ?_
  refine jPutI C 5 (by decide +kernel : decode cX11_cure 2 = .ok (.putfield 165, 3)) rfl hE t_v0 kX11 0 (by decide) rfl rfl (by decide) rfl wd_1154 rfl rfl rfl ?_
  refine jTopS (fun S1 e_S1 => ?_)
  have h := h S1 e_S1
  refine jB C [(.aload_n 0, 1, 0), (.iload_n 1, 1, 0)] 7 [(0, .ref (b + v0)), (1, .int v1), (2, .int v2)] [.int v1, .ref (b + v0)] (by decide +kernel) rfl rfl ?_
  refine jcV_I C 10 (rest := []) (ok_X11_isPerson t_v0 h) (by decide +kernel : decode cX11_cure 7 = .ok (.invokevirtual 209, 3)) rfl wd_1376 wd_1378 wp_103 wd_12 wd_1379 ⟨rfl, rfl⟩ hd_X11_isPerson ⟨Nat.le_of_ble_eq_true rfl, Nat.le_of_ble_eq_true rfl⟩ t_v0 kX11 (by decide) rfl rfl rfl (Nat.le_of_ble_eq_true rfl) ⟨Nat.zero_le _, Nat.zero_le _⟩ (fun r3 S2 h => ?_)
  refine jIf_eq C 13 18 (by decide +kernel : decode cX11_cure 10 = .ok (.ifCond .eq 8, 3)) rfl rfl (fun c4 => ?_) (fun c4 => ?_)
  · have h := it1 h c4
    refine jB C [(.iconst (-1), 1, (-1))] 19 [(0, .ref (b + v0)), (1, .int v1), (2, .int v2)] [.int (-1)] (by decide +kernel) rfl rfl ?_
    exact jRetI C (by decide +kernel : decode cX11_cure 19 = .ok (.ireturn, 1)) (Nat.le_refl _) (Nat.le_refl _) ⟨rfl, h⟩
  · have h := it2 h c4
    refine jB C [(.iload_n 2, 1, 0), (.iconst (-1), 1, (-1))] 15 [(0, .ref (b + v0)), (1, .int v1), (2, .int v2)] [.int (-1), .int v2] (by decide +kernel) rfl rfl ?_
    refine jIcmp_ge C 18 20 (by decide +kernel : decode cX11_cure 15 = .ok (.if_icmp .ge 5, 3)) rfl rfl (fun c5 => ?_) (fun c5 => ?_)
    · have h := it1 h c5
      refine jB C [(.aload_n 0, 1, 0)] 21 [(0, .ref (b + v0)), (1, .int v1), (2, .int v2)] [.ref (b + v0)] (by decide +kernel) rfl rfl ?_
      refine jcV_V C 24 (rest := []) (ok_X11_layCures t_v0 h) (by decide +kernel : decode cX11_cure 21 = .ok (.invokevirtual 496, 3)) rfl wd_1707 wd_1709 wp_154 wd_12 wd_1710 ⟨rfl, rfl⟩ hd_X11_layCures ⟨Nat.le_of_ble_eq_true rfl, Nat.le_of_ble_eq_true rfl⟩ t_v0 kX11 (by decide) rfl rfl rfl (Nat.le_of_ble_eq_true rfl) ⟨Nat.zero_le _, Nat.zero_le _⟩ (fun S6 h => ?_)
      refine jB C [(.aload_n 0, 1, 0), (.iload_n 1, 1, 0)] 26 [(0, .ref (b + v0)), (1, .int v1), (2, .int v2)] [.int v1, .ref (b + v0)] (by decide +kernel) rfl rfl ?_
      refine jcV_I C 29 (rest := []) (ok_X11_sightOf t_v0 h) (by decide +kernel : decode cX11_cure 26 = .ok (.invokevirtual 215, 3)) rfl wd_1386 wd_1388 wp_105 wd_12 wd_1389 ⟨rfl, rfl⟩ hd_X11_sightOf ⟨Nat.le_of_ble_eq_true rfl, Nat.le_of_ble_eq_true rfl⟩ t_v0 kX11 (by decide) rfl rfl rfl (Nat.le_of_ble_eq_true rfl) ⟨Nat.zero_le _, Nat.zero_le _⟩ (fun r8 S7 h => ?_)
      refine jB C [(.istore_n 3, 1, 0), (.aload_n 0, 1, 0)] 31 [(3, .int r8), (0, .ref (b + v0)), (1, .int v1), (2, .int v2)] [.ref (b + v0)] (by decide +kernel) rfl rfl ?_
      obtain ⟨a9, e_a9, h⟩ := h
      refine jGetR C 34 (by decide +kernel : decode cX11_cure 31 = .ok (.getfield 120, 3)) rfl t_v0 kX11 45 (by decide) rfl rfl (by decide) wd_1199 e_a9 rfl (fun t_a9 => ?_)
      refine jB C [(.iload_n 3, 1, 0)] 35 [(3, .int r8), (0, .ref (b + v0)), (1, .int v1), (2, .int v2)] [.int r8, .ref (b + a9)] (by decide +kernel) rfl rfl ?_
      obtain ⟨y10, h⟩ := h
      refine jIald C 36 (by decide +kernel : decode cX11_cure 35 = .ok (.iaload, 1)) rfl t_a9 y10 ?_
      refine jTopI (fun x11 e_x11 => ?_)
      have h := h x11 e_x11
      refine jB C [(.istore 4, 2, 0), (.iload 4, 2, 0)] 40 [(4, .int x11), (3, .int r8), (0, .ref (b + v0)), (1, .int v1), (2, .int v2)] [.int x11] (by decide +kernel) rfl rfl ?_
      refine jLdcw C 43 (by decide +kernel : decode cX11_cure 40 = .ok (.ldc_w 495, 3)) rfl wd_1711 ?_
      refine jIcmp_ge C 46 52 (by decide +kernel : decode cX11_cure 43 = .ok (.if_icmp .ge 9, 3)) rfl rfl (fun c12 => ?_) (fun c12 => ?_)
      · have h := it1 h c12
        refine jB C [(.iconst (-1), 1, (-1))] 53 [(4, .int x11), (3, .int r8), (0, .ref (b + v0)), (1, .int v1), (2, .int v2)] [.int (-1)] (by decide +kernel) rfl rfl ?_
        exact jRetI C (by decide +kernel : decode cX11_cure 53 = .ok (.ireturn, 1)) (Nat.le_refl _) (Nat.le_refl _) ⟨rfl, h⟩
      · have h := it2 h c12
        refine jB C [(.iload_n 2, 1, 0), (.iload 4, 2, 0)] 49 [(4, .int x11), (3, .int r8), (0, .ref (b + v0)), (1, .int v1), (2, .int v2)] [.int x11, .int v2] (by decide +kernel) rfl rfl ?_
        refine jIcmp_lt C 52 54 (by decide +kernel : decode cX11_cure 49 = .ok (.if_icmp .lt 5, 3)) rfl rfl (fun c13 => ?_) (fun c13 => ?_)
        · have h := it1 h c13
          refine jB C [(.iload_n 2, 1, 0), (.iconst (-1), 1, (-1))] 56 [(4, .int x11), (3, .int r8), (0, .ref (b + v0)), (1, .int v1), (2, .int v2)] [.int (-1), .int v2] (by decide +kernel) rfl rfl ?_
          refine jIcmp_ne C 59 62 (by decide +kernel : decode cX11_cure 56 = .ok (.if_icmp .ne 6, 3)) rfl rfl (fun c14 => ?_) (fun c14 => ?_)
          · have h := it2 h c14
            refine jB C [(.iconst 0, 1, 0), (.istore 5, 2, 0)] 65 [(5, .int 0), (4, .int x11), (3, .int r8), (0, .ref (b + v0)), (1, .int v1), (2, .int v2)] [] (by decide +kernel) rfl rfl ?_
            refine jSub [3, 5, 2, 0] rfl ?_
            exact j_X11_cure_65 C hE t_v0 h
          · have h := it1 h c14
            refine jB C [(.iload 4, 2, 0)] 61 [(4, .int x11), (3, .int r8), (0, .ref (b + v0)), (1, .int v1), (2, .int v2)] [.int x11] (by decide +kernel) rfl rfl ?_
            exact jRetI C (by decide +kernel : decode cX11_cure 61 = .ok (.ireturn, 1)) (Nat.le_refl _) (Nat.le_refl _) ⟨rfl, h⟩
        · have h := it2 h c13
          refine jB C [(.iconst (-1), 1, (-1))] 53 [(4, .int x11), (3, .int r8), (0, .ref (b + v0)), (1, .int v1), (2, .int v2)] [.int (-1)] (by decide +kernel) rfl rfl ?_
          exact jRetI C (by decide +kernel : decode cX11_cure 53 = .ok (.ireturn, 1)) (Nat.le_refl _) (Nat.le_refl _) ⟨rfl, h⟩
    · have h := it2 h c5
      refine jB C [(.iconst (-1), 1, (-1))] 19 [(0, .ref (b + v0)), (1, .int v1), (2, .int v2)] [.int (-1)] (by decide +kernel) rfl rfl ?_
      exact jRetI C (by decide +kernel : decode cX11_cure 19 = .ok (.ireturn, 1)) (Nat.le_refl _) (Nat.le_refl _) ⟨rfl, h⟩
theorem ok_X11_cure {G : Gm} {v0 : Nat} {v1 : Int32} {v2 : Int32} {S : St} {Q : Int32 → St → Prop}  (t_v0 : ok G 10 v0) (h : f_X11_cure G v0 v1 v2 Q S) : MT yX11_cure cX11_cure 6 (some .int) rm_X11_cure 0 0 (fun b => [.ref (b + v0), .int v1, .int v2]) G S (QI (fun r G1 S1 => G1 = G ∧ Q r S1)) := MT.ofJ (by decide +kernel) (fun b => [(0, .ref (b + v0)), (1, .int v1), (2, .int v2)]) (fun b => rfl) (fun b => Nat.le_of_ble_eq_true rfl) (fun l b D cy p e s m below meth c C hE hn => j_X11_cure C hE t_v0 h)
theorem hd_X11_cure : yX11_cure.cls ≠ "java/lang/invoke/MethodHandle" ∧ yX11_cure.cls ≠ "java/lang/invoke/VarHandle" ∧ (parseMethodDescriptor yX11_cure.desc).map (fun d => d.parameters.length) = some 2 := by decide +kernel
abbrev rm_X11_doesOf : Room := { frames := 6, cells := 0, slots := 0, locals := 143 }
set_option maxHeartbeats 4000000 in
set_option maxRecDepth 100000 in
theorem j_X11_doesOf {p : Program} {l : Launch} {e : Env} {s : State} {m : MethodId} {args : Array Value} {below : List Frame} {meth : Method} {c : Code} {b : Nat} {D : va_G} {cy : Nat → ClassId} {G : Gm} {v0 : Nat} {v1 : Int32} {v2 : Int32} {S : St} {Q : Int32 → St → Prop} (C : CX p s m args meth c b D cy cX11_doesOf RX11 3 (some .int)) (hE : s.heap.size + 0 ≤ b + G.2.2) (t_v0 : ok G 10 v0) (h : f_X11_doesOf G v0 v1 v2 Q S) : J p l e rm_X11_doesOf s m args below meth c b D cy 3 (zI b D cy below args s G Q) 0 0 G S 0 [(0, .ref (b + v0)), (1, .int v1), (2, .int v2)] [] := by
  unfold f_X11_doesOf at h
  refine jB C [(.aload_n 0, 1, 0), (.iconst 2, 1, 2), (.iload_n 1, 1, 0), (.iconst (-1), 1, (-1)), (.iload_n 2, 1, 0), (.iload_n 2, 1, 0)] 6 [(0, .ref (b + v0)), (1, .int v1), (2, .int v2)] [.int v2, .int v2, .int (-1), .int v1, .int 2, .ref (b + v0)] (by decide +kernel) rfl rfl ?_
  refine jcS_I C 9 (rest := [.int v2, .int (-1), .int v1, .int 2, .ref (b + v0)]) (ok_X11_litOf h) (by decide +kernel : decode cX11_doesOf 6 = .ok (.invokestatic 445, 3)) rfl wd_1398 wd_1399 wd_12 wd_1400 ⟨rfl, rfl⟩ hd_X11_litOf ⟨Nat.le_of_ble_eq_true rfl, Nat.le_of_ble_eq_true rfl⟩ rfl rfl (Nat.le_of_ble_eq_true rfl) ⟨Nat.zero_le _, Nat.zero_le _⟩ (fun r2 S1 h => ?_)
  refine jB C [(.iconst 4, 1, 4)] 10 [(0, .ref (b + v0)), (1, .int v1), (2, .int v2)] [.int 4, .int r2, .int v2, .int (-1), .int v1, .int 2, .ref (b + v0)] (by decide +kernel) rfl rfl ?_
  refine jIrem C 11 (by decide +kernel : decode cX11_doesOf 10 = .ok (.irem, 1)) rfl (by decide) ?_
  refine jB C [(.i2l, 1, 0)] 12 [(0, .ref (b + v0)), (1, .int v1), (2, .int v2)] [.long ((r2 - r2 / 4 * 4).toInt64), .int v2, .int (-1), .int v1, .int 2, .ref (b + v0)] (by decide +kernel) rfl rfl ?_
  refine jcV_L C 15 (rest := []) (ok_X11_tells t_v0 h) (by decide +kernel : decode cX11_doesOf 12 = .ok (.invokevirtual 454, 3)) rfl wd_1401 wd_1403 wp_108 wd_12 wd_1404 ⟨rfl, rfl⟩ hd_X11_tells ⟨Nat.le_of_ble_eq_true rfl, Nat.le_of_ble_eq_true rfl⟩ t_v0 kX11 (by decide) rfl rfl rfl (Nat.le_of_ble_eq_true rfl) ⟨Nat.zero_le _, Nat.zero_le _⟩ (fun r4 S3 h => ?_)
  refine jB C [(.iconst 0, 1, 0), (.iconst 3, 1, 3)] 17 [(0, .ref (b + v0)), (1, .int v1), (2, .int v2)] [.int 3, .int 0, .long r4] (by decide +kernel) rfl rfl ?_
  refine jcS_I C 20 (rest := []) (ok_X11_within h) (by decide +kernel : decode cX11_doesOf 17 = .ok (.invokestatic 458, 3)) rfl wd_1427 wd_1428 wd_12 wd_1429 ⟨rfl, rfl⟩ hd_X11_within ⟨Nat.le_of_ble_eq_true rfl, Nat.le_of_ble_eq_true rfl⟩ rfl rfl (Nat.le_of_ble_eq_true rfl) ⟨Nat.zero_le _, Nat.zero_le _⟩ (fun r6 S5 h => ?_)
  exact jRetI C (by decide +kernel : decode cX11_doesOf 20 = .ok (.ireturn, 1)) (Nat.le_refl _) (Nat.le_refl _) ⟨rfl, h⟩
theorem ok_X11_doesOf {G : Gm} {v0 : Nat} {v1 : Int32} {v2 : Int32} {S : St} {Q : Int32 → St → Prop}  (t_v0 : ok G 10 v0) (h : f_X11_doesOf G v0 v1 v2 Q S) : MT yX11_doesOf cX11_doesOf 3 (some .int) rm_X11_doesOf 0 0 (fun b => [.ref (b + v0), .int v1, .int v2]) G S (QI (fun r G1 S1 => G1 = G ∧ Q r S1)) := MT.ofJ (by decide +kernel) (fun b => [(0, .ref (b + v0)), (1, .int v1), (2, .int v2)]) (fun b => rfl) (fun b => Nat.le_of_ble_eq_true rfl) (fun l b D cy p e s m below meth c C hE hn => j_X11_doesOf C hE t_v0 h)
theorem hd_X11_doesOf : yX11_doesOf.cls ≠ "java/lang/invoke/MethodHandle" ∧ yX11_doesOf.cls ≠ "java/lang/invoke/VarHandle" ∧ (parseMethodDescriptor yX11_doesOf.desc).map (fun d => d.parameters.length) = some 2 := by decide +kernel
abbrev rm_X11_draw : Room := { frames := 0, cells := 0, slots := 0, locals := 0 }
set_option maxHeartbeats 4000000 in
set_option maxRecDepth 100000 in
theorem j_X11_draw {p : Program} {l : Launch} {e : Env} {s : State} {m : MethodId} {args : Array Value} {below : List Frame} {meth : Method} {c : Code} {b : Nat} {D : va_G} {cy : Nat → ClassId} {G : Gm} {v0 : Nat} {v1 : Int32} {S : St} {Q : Int32 → St → Prop} (C : CX p s m args meth c b D cy cX11_draw RX11 2 (some .int)) (hE : s.heap.size + 0 ≤ b + G.2.2) (t_v0 : ok G 10 v0) (h : f_X11_draw G v0 v1 Q S) : J p l e rm_X11_draw s m args below meth c b D cy 2 (zI b D cy below args s G Q) 0 0 G S 0 [(0, .ref (b + v0)), (1, .int v1)] [] := by
  unfold f_X11_draw at h
  refine jB C [(.aload_n 0, 1, 0), (.aload_n 0, 1, 0)] 2 [(0, .ref (b + v0)), (1, .int v1)] [.ref (b + v0), .ref (b + v0)] (by decide +kernel) rfl rfl ?_
  refine jGetJ C 5 (by decide +kernel : decode cX11_draw 2 = .ok (.getfield 559, 3)) rfl t_v0 kX11 57 (by decide) rfl rfl (by decide) wd_1211 ?_
  refine jLdc2 C 8 (by decide +kernel : decode cX11_draw 5 = .ok (.ldc2_w 562, 3)) rfl wd_1834 ?_
  refine jB C [(.lmul, 1, 0)] 9 [(0, .ref (b + v0)), (1, .int v1)] [.long ((S.2.1 v0 57) * 1103), .ref (b + v0)] (by decide +kernel) rfl rfl ?_
  refine jLdc2 C 12 (by decide +kernel : decode cX11_draw 9 = .ok (.ldc2_w 564, 3)) rfl wd_1835 ?_
  refine jB C [(.ladd, 1, 0)] 13 [(0, .ref (b + v0)), (1, .int v1)] [.long (((S.2.1 v0 57) * 1103) + 12345), .ref (b + v0)] (by decide +kernel) rfl rfl ?_
  refine jLdc2 C 16 (by decide +kernel : decode cX11_draw 13 = .ok (.ldc2_w 566, 3)) rfl wd_1836 ?_
  refine jLrem C 17 (by decide +kernel : decode cX11_draw 16 = .ok (.lrem, 1)) rfl (by decide) ?_
  refine jPutJ C 20 (by decide +kernel : decode cX11_draw 17 = .ok (.putfield 559, 3)) rfl hE t_v0 kX11 57 (by decide) rfl rfl (by decide) rfl wd_1211 rfl rfl rfl ?_
  refine jTopS (fun S1 e_S1 => ?_)
  have h := h S1 e_S1
  refine jB C [(.aload_n 0, 1, 0)] 21 [(0, .ref (b + v0)), (1, .int v1)] [.ref (b + v0)] (by decide +kernel) rfl rfl ?_
  refine jGetJ C 24 (by decide +kernel : decode cX11_draw 21 = .ok (.getfield 559, 3)) rfl t_v0 kX11 57 (by decide) rfl rfl (by decide) wd_1211 ?_
  refine jB C [(.iload_n 1, 1, 0), (.i2l, 1, 0)] 26 [(0, .ref (b + v0)), (1, .int v1)] [.long v1.toInt64, .long (S1.2.1 v0 57)] (by decide +kernel) rfl rfl ?_
  obtain ⟨y2, h⟩ := h
  refine jLrem C 27 (by decide +kernel : decode cX11_draw 26 = .ok (.lrem, 1)) rfl y2 ?_
  refine jB C [(.l2i, 1, 0)] 28 [(0, .ref (b + v0)), (1, .int v1)] [.int (((S1.2.1 v0 57) - (S1.2.1 v0 57) / v1.toInt64 * v1.toInt64).toInt32)] (by decide +kernel) rfl rfl ?_
  exact jRetI C (by decide +kernel : decode cX11_draw 28 = .ok (.ireturn, 1)) (Nat.le_refl _) (Nat.le_refl _) ⟨rfl, h⟩
theorem ok_X11_draw {G : Gm} {v0 : Nat} {v1 : Int32} {S : St} {Q : Int32 → St → Prop}  (t_v0 : ok G 10 v0) (h : f_X11_draw G v0 v1 Q S) : MT yX11_draw cX11_draw 2 (some .int) rm_X11_draw 0 0 (fun b => [.ref (b + v0), .int v1]) G S (QI (fun r G1 S1 => G1 = G ∧ Q r S1)) := MT.ofJ (by decide +kernel) (fun b => [(0, .ref (b + v0)), (1, .int v1)]) (fun b => rfl) (fun b => Nat.le_of_ble_eq_true rfl) (fun l b D cy p e s m below meth c C hE hn => j_X11_draw C hE t_v0 h)
theorem hd_X11_draw : yX11_draw.cls ≠ "java/lang/invoke/MethodHandle" ∧ yX11_draw.cls ≠ "java/lang/invoke/VarHandle" ∧ (parseMethodDescriptor yX11_draw.desc).map (fun d => d.parameters.length) = some 1 := by decide +kernel
abbrev rm_X11_drawn : Room := { frames := 1, cells := 0, slots := 0, locals := 25 }
set_option maxHeartbeats 4000000 in
set_option maxRecDepth 100000 in
theorem j_X11_drawn_61 {p : Program} {l : Launch} {e : Env} {s : State} {m : MethodId} {args : Array Value} {below : List Frame} {meth : Method} {c : Code} {b : Nat} {D : va_G} {cy : Nat → ClassId} {G : Gm} {u0 : Int32} {u1 : Nat} {S : St} {Q : Int32 → St → Prop} (C : CX p s m args meth c b D cy cX11_drawn RX11 3 (some .int)) (hE : s.heap.size + 0 ≤ b + G.2.2) (t_u1 : ok G 11 u1) (h : f_X11_drawn_61 G u0 u1 Q S) : J p l e rm_X11_drawn s m args below meth c b D cy 3 (zI b D cy below args s G Q) 0 0 G S 61 [] [.int u0, .ref (b + u1)] := by
  unfold f_X11_drawn_61 at h
  refine jB C [(.iconst 4, 1, 4), (.isub, 1, 0)] 63 [] [.int (u0 - 4), .ref (b + u1)] (by decide +kernel) rfl rfl ?_
  obtain ⟨y1, h⟩ := h
  refine jIald C 64 (by decide +kernel : decode cX11_drawn 63 = .ok (.iaload, 1)) rfl t_u1 y1 ?_
  exact jRetI C (by decide +kernel : decode cX11_drawn 64 = .ok (.ireturn, 1)) (Nat.le_refl _) (Nat.le_refl _) ⟨rfl, h⟩
set_option maxHeartbeats 4000000 in
set_option maxRecDepth 100000 in
theorem j_X11_drawn {p : Program} {l : Launch} {e : Env} {s : State} {m : MethodId} {args : Array Value} {below : List Frame} {meth : Method} {c : Code} {b : Nat} {D : va_G} {cy : Nat → ClassId} {G : Gm} {v0 : Nat} {v1 : Int32} {v2 : Int32} {S : St} {Q : Int32 → St → Prop} (C : CX p s m args meth c b D cy cX11_drawn RX11 3 (some .int)) (hE : s.heap.size + 0 ≤ b + G.2.2) (t_v0 : ok G 10 v0) (h : f_X11_drawn G v0 v1 v2 Q S) : J p l e rm_X11_drawn s m args below meth c b D cy 3 (zI b D cy below args s G Q) 0 0 G S 0 [(0, .ref (b + v0)), (1, .int v1), (2, .int v2)] [] := by
  unfold f_X11_drawn at h
  refine jB C [(.aload_n 0, 1, 0), (.iconst 0, 1, 0)] 2 [(0, .ref (b + v0)), (1, .int v1), (2, .int v2)] [.int 0, .ref (b + v0)] (by decide +kernel) rfl rfl ?_
  refine jPutI C 5 (by decide +kernel : decode cX11_drawn 2 = .ok (.putfield 165, 3)) rfl hE t_v0 kX11 0 (by decide) rfl rfl (by decide) rfl wd_1154 rfl rfl rfl ?_
  refine jTopS (fun S1 e_S1 => ?_)
  have h := h S1 e_S1
  refine jB C [(.iload_n 1, 1, 0), (.i2l, 1, 0), (.lconst 0, 1, 0), (.aload_n 0, 1, 0)] 9 [(0, .ref (b + v0)), (1, .int v1), (2, .int v2)] [.ref (b + v0), .long 0, .long v1.toInt64] (by decide +kernel) rfl rfl ?_
  refine jGetI C 12 (by decide +kernel : decode cX11_drawn 9 = .ok (.getfield 158, 3)) rfl t_v0 kX11 59 (by decide) rfl rfl (by decide) wd_1213 ?_
  refine jB C [(.i2l, 1, 0), (.lconst 1, 1, 0), (.lsub, 1, 0)] 15 [(0, .ref (b + v0)), (1, .int v1), (2, .int v2)] [.long (((S1.1 v0 59).toInt64) - 1), .long 0, .long v1.toInt64] (by decide +kernel) rfl rfl ?_
  refine jcS_I C 18 (rest := []) (ok_X11_in h) (by decide +kernel : decode cX11_drawn 15 = .ok (.invokestatic 185, 3)) rfl wd_1352 wd_1353 wd_12 wd_1354 ⟨rfl, rfl⟩ hd_X11_in ⟨Nat.le_of_ble_eq_true rfl, Nat.le_of_ble_eq_true rfl⟩ rfl rfl (Nat.le_of_ble_eq_true rfl) ⟨Nat.zero_le _, Nat.zero_le _⟩ (fun r3 S2 h => ?_)
  refine jIf_eq C 21 33 (by decide +kernel : decode cX11_drawn 18 = .ok (.ifCond .eq 15, 3)) rfl rfl (fun c4 => ?_) (fun c4 => ?_)
  · have h := it1 h c4
    refine jB C [(.iconst (-1), 1, (-1))] 34 [(0, .ref (b + v0)), (1, .int v1), (2, .int v2)] [.int (-1)] (by decide +kernel) rfl rfl ?_
    exact jRetI C (by decide +kernel : decode cX11_drawn 34 = .ok (.ireturn, 1)) (Nat.le_refl _) (Nat.le_refl _) ⟨rfl, h⟩
  · have h := it2 h c4
    refine jB C [(.iload_n 2, 1, 0), (.i2l, 1, 0), (.lconst 0, 1, 0)] 24 [(0, .ref (b + v0)), (1, .int v1), (2, .int v2)] [.long 0, .long v2.toInt64] (by decide +kernel) rfl rfl ?_
    refine jLdc2 C 27 (by decide +kernel : decode cX11_drawn 24 = .ok (.ldc2_w 517, 3)) rfl wd_1768 ?_
    refine jcS_I C 30 (rest := []) (ok_X11_in h) (by decide +kernel : decode cX11_drawn 27 = .ok (.invokestatic 185, 3)) rfl wd_1352 wd_1353 wd_12 wd_1354 ⟨rfl, rfl⟩ hd_X11_in ⟨Nat.le_of_ble_eq_true rfl, Nat.le_of_ble_eq_true rfl⟩ rfl rfl (Nat.le_of_ble_eq_true rfl) ⟨Nat.zero_le _, Nat.zero_le _⟩ (fun r6 S5 h => ?_)
    refine jIf_ne C 33 35 (by decide +kernel : decode cX11_drawn 30 = .ok (.ifCond .ne 5, 3)) rfl rfl (fun c7 => ?_) (fun c7 => ?_)
    · have h := it2 h c7
      refine jB C [(.aload_n 0, 1, 0)] 36 [(0, .ref (b + v0)), (1, .int v1), (2, .int v2)] [.ref (b + v0)] (by decide +kernel) rfl rfl ?_
      obtain ⟨a8, e_a8, h⟩ := h
      refine jGetR C 39 (by decide +kernel : decode cX11_drawn 36 = .ok (.getfield 155, 3)) rfl t_v0 kX11 58 (by decide) rfl rfl (by decide) wd_1212 e_a8 rfl (fun t_a8 => ?_)
      refine jB C [(.iload_n 2, 1, 0), (.iconst 4, 1, 4)] 41 [(0, .ref (b + v0)), (1, .int v1), (2, .int v2)] [.int 4, .int v2, .ref (b + a8)] (by decide +kernel) rfl rfl ?_
      refine jIcmp_ge C 44 55 (by decide +kernel : decode cX11_drawn 41 = .ok (.if_icmp .ge 14, 3)) rfl rfl (fun c9 => ?_) (fun c9 => ?_)
      · have h := it1 h c9
        refine jB C [(.bipush 32, 2, 32), (.iconst 5, 1, 5), (.iload_n 1, 1, 0), (.imul, 1, 0), (.iadd, 1, 0)] 61 [(0, .ref (b + v0)), (1, .int v1), (2, .int v2)] [.int (32 + (5 * v1)), .ref (b + a8)] (by decide +kernel) rfl rfl ?_
        refine jSub [] rfl ?_
        exact j_X11_drawn_61 C hE t_a8 h
      · have h := it2 h c9
        refine jB C [(.bipush 8, 2, 8), (.iconst 4, 1, 4), (.iload_n 1, 1, 0), (.imul, 1, 0), (.iadd, 1, 0), (.iload_n 2, 1, 0), (.iadd, 1, 0)] 52 [(0, .ref (b + v0)), (1, .int v1), (2, .int v2)] [.int ((8 + (4 * v1)) + v2), .ref (b + a8)] (by decide +kernel) rfl rfl ?_
        refine jGoto C 61 (by decide +kernel : decode cX11_drawn 52 = .ok (.goto 9, 3)) rfl ?_
        refine jSub [] rfl ?_
        exact j_X11_drawn_61 C hE t_a8 h
    · have h := it1 h c7
      refine jB C [(.iconst (-1), 1, (-1))] 34 [(0, .ref (b + v0)), (1, .int v1), (2, .int v2)] [.int (-1)] (by decide +kernel) rfl rfl ?_
      exact jRetI C (by decide +kernel : decode cX11_drawn 34 = .ok (.ireturn, 1)) (Nat.le_refl _) (Nat.le_refl _) ⟨rfl, h⟩
theorem ok_X11_drawn {G : Gm} {v0 : Nat} {v1 : Int32} {v2 : Int32} {S : St} {Q : Int32 → St → Prop}  (t_v0 : ok G 10 v0) (h : f_X11_drawn G v0 v1 v2 Q S) : MT yX11_drawn cX11_drawn 3 (some .int) rm_X11_drawn 0 0 (fun b => [.ref (b + v0), .int v1, .int v2]) G S (QI (fun r G1 S1 => G1 = G ∧ Q r S1)) := MT.ofJ (by decide +kernel) (fun b => [(0, .ref (b + v0)), (1, .int v1), (2, .int v2)]) (fun b => rfl) (fun b => Nat.le_of_ble_eq_true rfl) (fun l b D cy p e s m below meth c C hE hn => j_X11_drawn C hE t_v0 h)
theorem hd_X11_drawn : yX11_drawn.cls ≠ "java/lang/invoke/MethodHandle" ∧ yX11_drawn.cls ≠ "java/lang/invoke/VarHandle" ∧ (parseMethodDescriptor yX11_drawn.desc).map (fun d => d.parameters.length) = some 2 := by decide +kernel
abbrev rm_X11_end : Room := { frames := 0, cells := 0, slots := 0, locals := 0 }
set_option maxHeartbeats 4000000 in
set_option maxRecDepth 100000 in
theorem j_X11_end {p : Program} {l : Launch} {e : Env} {s : State} {m : MethodId} {args : Array Value} {below : List Frame} {meth : Method} {c : Code} {b : Nat} {D : va_G} {cy : Nat → ClassId} {G : Gm} {v0 : Nat} {v1 : Int32} {S : St} {Q : Int32 → St → Prop} (C : CX p s m args meth c b D cy cX11_end RX11 2 (some .int)) (hE : s.heap.size + 0 ≤ b + G.2.2) (t_v0 : ok G 10 v0) (h : f_X11_end G v0 v1 Q S) : J p l e rm_X11_end s m args below meth c b D cy 2 (zI b D cy below args s G Q) 0 0 G S 0 [(0, .ref (b + v0)), (1, .int v1)] [] := by
  unfold f_X11_end at h
  refine jB C [(.aload_n 0, 1, 0), (.iconst 0, 1, 0)] 2 [(0, .ref (b + v0)), (1, .int v1)] [.int 0, .ref (b + v0)] (by decide +kernel) rfl rfl ?_
  refine jPutI C 5 (by decide +kernel : decode cX11_end 2 = .ok (.putfield 165, 3)) rfl hE t_v0 kX11 0 (by decide) rfl rfl (by decide) rfl wd_1154 rfl rfl rfl ?_
  refine jTopS (fun S1 e_S1 => ?_)
  have h := h S1 e_S1
  refine jB C [(.iload_n 1, 1, 0)] 6 [(0, .ref (b + v0)), (1, .int v1)] [.int v1] (by decide +kernel) rfl rfl ?_
  refine jIf_lt C 9 17 (by decide +kernel : decode cX11_end 6 = .ok (.ifCond .lt 11, 3)) rfl rfl (fun c2 => ?_) (fun c2 => ?_)
  · have h := it1 h c2
    refine jB C [(.iconst (-1), 1, (-1))] 18 [(0, .ref (b + v0)), (1, .int v1)] [.int (-1)] (by decide +kernel) rfl rfl ?_
    exact jRetI C (by decide +kernel : decode cX11_end 18 = .ok (.ireturn, 1)) (Nat.le_refl _) (Nat.le_refl _) ⟨rfl, h⟩
  · have h := it2 h c2
    refine jB C [(.iload_n 1, 1, 0), (.aload_n 0, 1, 0)] 11 [(0, .ref (b + v0)), (1, .int v1)] [.ref (b + v0), .int v1] (by decide +kernel) rfl rfl ?_
    refine jGetI C 14 (by decide +kernel : decode cX11_end 11 = .ok (.getfield 259, 3)) rfl t_v0 kX11 14 (by decide) rfl rfl (by decide) wd_1168 ?_
    refine jIcmp_le C 17 19 (by decide +kernel : decode cX11_end 14 = .ok (.if_icmp .le 5, 3)) rfl rfl (fun c3 => ?_) (fun c3 => ?_)
    · have h := it1 h c3
      refine jB C [(.aload_n 0, 1, 0), (.iload_n 1, 1, 0)] 21 [(0, .ref (b + v0)), (1, .int v1)] [.int v1, .ref (b + v0)] (by decide +kernel) rfl rfl ?_
      refine jPutI C 24 (by decide +kernel : decode cX11_end 21 = .ok (.putfield 259, 3)) rfl hE t_v0 kX11 14 (by decide) rfl rfl (by decide) rfl wd_1168 rfl rfl rfl ?_
      refine jTopS (fun S4 e_S4 => ?_)
      have h := h S4 e_S4
      refine jB C [(.iload_n 1, 1, 0)] 25 [(0, .ref (b + v0)), (1, .int v1)] [.int v1] (by decide +kernel) rfl rfl ?_
      exact jRetI C (by decide +kernel : decode cX11_end 25 = .ok (.ireturn, 1)) (Nat.le_refl _) (Nat.le_refl _) ⟨rfl, h⟩
    · have h := it2 h c3
      refine jB C [(.iconst (-1), 1, (-1))] 18 [(0, .ref (b + v0)), (1, .int v1)] [.int (-1)] (by decide +kernel) rfl rfl ?_
      exact jRetI C (by decide +kernel : decode cX11_end 18 = .ok (.ireturn, 1)) (Nat.le_refl _) (Nat.le_refl _) ⟨rfl, h⟩
theorem ok_X11_end {G : Gm} {v0 : Nat} {v1 : Int32} {S : St} {Q : Int32 → St → Prop}  (t_v0 : ok G 10 v0) (h : f_X11_end G v0 v1 Q S) : MT yX11_end cX11_end 2 (some .int) rm_X11_end 0 0 (fun b => [.ref (b + v0), .int v1]) G S (QI (fun r G1 S1 => G1 = G ∧ Q r S1)) := MT.ofJ (by decide +kernel) (fun b => [(0, .ref (b + v0)), (1, .int v1)]) (fun b => rfl) (fun b => Nat.le_of_ble_eq_true rfl) (fun l b D cy p e s m below meth c C hE hn => j_X11_end C hE t_v0 h)
theorem hd_X11_end : yX11_end.cls ≠ "java/lang/invoke/MethodHandle" ∧ yX11_end.cls ≠ "java/lang/invoke/VarHandle" ∧ (parseMethodDescriptor yX11_end.desc).map (fun d => d.parameters.length) = some 1 := by decide +kernel
abbrev rm_X11_endText : Room := { frames := 3, cells := 0, slots := 0, locals := 61 }
set_option maxHeartbeats 4000000 in
set_option maxRecDepth 100000 in
theorem j_X11_endText_19 {p : Program} {l : Launch} {e : Env} {s : State} {m : MethodId} {args : Array Value} {below : List Frame} {meth : Method} {c : Code} {b : Nat} {D : va_G} {cy : Nat → ClassId} {G : Gm} {v0 : Nat} {S : St} {Q : St → Prop} (C : CX p s m args meth c b D cy cX11_endText RX11 1 none) (hE : s.heap.size + 0 ≤ b + G.2.2) (t_v0 : ok G 10 v0) (h : f_X11_endText_19 G v0 Q S) : J p l e rm_X11_endText s m args below meth c b D cy 1 (zV b D cy below args s G Q) 0 0 G S 19 [(0, .ref (b + v0))] [] := by
  unfold f_X11_endText_19 at h
  refine jB C [(.aload_n 0, 1, 0), (.iconst 0, 1, 0)] 21 [(0, .ref (b + v0))] [.int 0, .ref (b + v0)] (by decide +kernel) rfl rfl ?_
  refine jPutI C 24 (by decide +kernel : decode cX11_endText 21 = .ok (.putfield 347, 3)) rfl hE t_v0 kX11 21 (by decide) rfl rfl (by decide) rfl wd_1175 rfl (by decide) (by decide) ?_
  refine jTopS (fun S1 e_S1 => ?_)
  have h := h S1 e_S1
  refine jB C [(.aload_n 0, 1, 0), (.iconst 0, 1, 0)] 26 [(0, .ref (b + v0))] [.int 0, .ref (b + v0)] (by decide +kernel) rfl rfl ?_
  refine jPutI C 29 (by decide +kernel : decode cX11_endText 26 = .ok (.putfield 259, 3)) rfl hE t_v0 kX11 14 (by decide) rfl rfl (by decide) rfl wd_1168 rfl rfl rfl ?_
  refine jTopS (fun S2 e_S2 => ?_)
  have h := h S2 e_S2
  exact jRetV C (by decide +kernel : decode cX11_endText 29 = .ok (.return_, 1)) (Nat.le_refl _) (Nat.le_refl _) ⟨rfl, h⟩
set_option maxHeartbeats 4000000 in
set_option maxRecDepth 100000 in
theorem j_X11_endText {p : Program} {l : Launch} {e : Env} {s : State} {m : MethodId} {args : Array Value} {below : List Frame} {meth : Method} {c : Code} {b : Nat} {D : va_G} {cy : Nat → ClassId} {G : Gm} {v0 : Nat} {S : St} {Q : St → Prop} (C : CX p s m args meth c b D cy cX11_endText RX11 1 none) (hE : s.heap.size + 0 ≤ b + G.2.2) (t_v0 : ok G 10 v0) (h : f_X11_endText G v0 Q S) : J p l e rm_X11_endText s m args below meth c b D cy 1 (zV b D cy below args s G Q) 0 0 G S 0 [(0, .ref (b + v0))] [] := by
  unfold f_X11_endText at h
  refine jB C [(.aload_n 0, 1, 0)] 1 [(0, .ref (b + v0))] [.ref (b + v0)] (by decide +kernel) rfl rfl ?_
  refine jGetI C 4 (by decide +kernel : decode cX11_endText 1 = .ok (.getfield 271, 3)) rfl t_v0 kX11 20 (by decide) rfl rfl (by decide) wd_1174 ?_
  refine jIf_ne C 7 19 (by decide +kernel : decode cX11_endText 4 = .ok (.ifCond .ne 15, 3)) rfl rfl (fun c1 => ?_) (fun c1 => ?_)
  · have h := it2 h c1
    refine jSub [0] rfl ?_
    exact j_X11_endText_19 C hE t_v0 h
  · have h := it1 h c1
    refine jB C [(.aload_n 0, 1, 0)] 8 [(0, .ref (b + v0))] [.ref (b + v0)] (by decide +kernel) rfl rfl ?_
    refine jGetI C 11 (by decide +kernel : decode cX11_endText 8 = .ok (.getfield 291, 3)) rfl t_v0 kX11 17 (by decide) rfl rfl (by decide) wd_1171 ?_
    refine jIf_eq C 14 19 (by decide +kernel : decode cX11_endText 11 = .ok (.ifCond .eq 8, 3)) rfl rfl (fun c2 => ?_) (fun c2 => ?_)
    · have h := it1 h c2
      refine jSub [0] rfl ?_
      exact j_X11_endText_19 C hE t_v0 h
    · have h := it2 h c2
      refine jB C [(.aload_n 0, 1, 0), (.iconst 0, 1, 0)] 16 [(0, .ref (b + v0))] [.int 0, .ref (b + v0)] (by decide +kernel) rfl rfl ?_
      refine jcV_V C 19 (rest := []) (ok_X11_must t_v0 h) (by decide +kernel : decode cX11_endText 16 = .ok (.invokevirtual 304, 3)) rfl wd_1546 wd_1548 wp_124 wd_12 wd_1549 ⟨rfl, rfl⟩ hd_X11_must ⟨Nat.le_of_ble_eq_true rfl, Nat.le_of_ble_eq_true rfl⟩ t_v0 kX11 (by decide) rfl rfl rfl (Nat.le_of_ble_eq_true rfl) ⟨Nat.zero_le _, Nat.zero_le _⟩ (fun S3 h => ?_)
      refine jSub [0] rfl ?_
      exact j_X11_endText_19 C hE t_v0 h
theorem ok_X11_endText {G : Gm} {v0 : Nat} {S : St} {Q : St → Prop}  (t_v0 : ok G 10 v0) (h : f_X11_endText G v0 Q S) : MT yX11_endText cX11_endText 1 none rm_X11_endText 0 0 (fun b => [.ref (b + v0)]) G S (QV (fun G1 S1 => G1 = G ∧ Q S1)) := MT.ofJ (by decide +kernel) (fun b => [(0, .ref (b + v0))]) (fun b => rfl) (fun b => Nat.le_of_ble_eq_true rfl) (fun l b D cy p e s m below meth c C hE hn => j_X11_endText C hE t_v0 h)
theorem hd_X11_endText : yX11_endText.cls ≠ "java/lang/invoke/MethodHandle" ∧ yX11_endText.cls ≠ "java/lang/invoke/VarHandle" ∧ (parseMethodDescriptor yX11_endText.desc).map (fun d => d.parameters.length) = some 0 := by decide +kernel
abbrev rm_X11_fault : Room := { frames := 0, cells := 0, slots := 0, locals := 0 }
set_option maxHeartbeats 4000000 in
set_option maxRecDepth 100000 in
theorem j_X11_fault {p : Program} {l : Launch} {e : Env} {s : State} {m : MethodId} {args : Array Value} {below : List Frame} {meth : Method} {c : Code} {b : Nat} {D : va_G} {cy : Nat → ClassId} {G : Gm} {v0 : Nat} {S : St} {Q : Int32 → St → Prop} (C : CX p s m args meth c b D cy cX11_fault RX11 1 (some .int)) (hE : s.heap.size + 0 ≤ b + G.2.2) (t_v0 : ok G 10 v0) (h : f_X11_fault G v0 Q S) : J p l e rm_X11_fault s m args below meth c b D cy 1 (zI b D cy below args s G Q) 0 0 G S 0 [(0, .ref (b + v0))] [] := by
  unfold f_X11_fault at h
  refine jB C [(.aload_n 0, 1, 0), (.iconst 0, 1, 0)] 2 [(0, .ref (b + v0))] [.int 0, .ref (b + v0)] (by decide +kernel) rfl rfl ?_
  refine jPutI C 5 (by decide +kernel : decode cX11_fault 2 = .ok (.putfield 165, 3)) rfl hE t_v0 kX11 0 (by decide) rfl rfl (by decide) rfl wd_1154 rfl rfl rfl ?_
  refine jTopS (fun S1 e_S1 => ?_)
  have h := h S1 e_S1
  refine jB C [(.aload_n 0, 1, 0)] 6 [(0, .ref (b + v0))] [.ref (b + v0)] (by decide +kernel) rfl rfl ?_
  refine jGetI C 9 (by decide +kernel : decode cX11_fault 6 = .ok (.getfield 41, 3)) rfl t_v0 kX11 19 (by decide) rfl rfl (by decide) wd_1173 ?_
  exact jRetI C (by decide +kernel : decode cX11_fault 9 = .ok (.ireturn, 1)) (Nat.le_refl _) (Nat.le_refl _) ⟨rfl, h⟩
theorem ok_X11_fault {G : Gm} {v0 : Nat} {S : St} {Q : Int32 → St → Prop}  (t_v0 : ok G 10 v0) (h : f_X11_fault G v0 Q S) : MT yX11_fault cX11_fault 1 (some .int) rm_X11_fault 0 0 (fun b => [.ref (b + v0)]) G S (QI (fun r G1 S1 => G1 = G ∧ Q r S1)) := MT.ofJ (by decide +kernel) (fun b => [(0, .ref (b + v0))]) (fun b => rfl) (fun b => Nat.le_of_ble_eq_true rfl) (fun l b D cy p e s m below meth c C hE hn => j_X11_fault C hE t_v0 h)
theorem hd_X11_fault : yX11_fault.cls ≠ "java/lang/invoke/MethodHandle" ∧ yX11_fault.cls ≠ "java/lang/invoke/VarHandle" ∧ (parseMethodDescriptor yX11_fault.desc).map (fun d => d.parameters.length) = some 0 := by decide +kernel
abbrev rm_X11_four : Room := { frames := 0, cells := 0, slots := 0, locals := 0 }
set_option maxHeartbeats 4000000 in
set_option maxRecDepth 100000 in
theorem j_X11_four_3_n {p : Program} {l : Launch} {e : Env} {s : State} {m : MethodId} {args : Array Value} {below : List Frame} {meth : Method} {c : Code} {b : Nat} {D : va_G} {cy : Nat → ClassId} {G : Gm} {v0 : Nat} {v1 : Int32} {Q : St → Prop} (C : CX p s m args meth c b D cy cX11_four RX11 3 none) (hE : s.heap.size + 0 ≤ b + G.2.2) (t_v0 : ok G 10 v0) : ∀ k (v2 : Int32) S, f_X11_four_3_n G v0 v1 Q k v2 S → J p l e rm_X11_four s m args below meth c b D cy 3 (zV b D cy below args s G Q) 0 0 G S 3 [(0, .ref (b + v0)), (1, .int v1), (2, .int v2)] [] := by
  intro k
  induction k with
  | zero => intro v2 S h; exact h.elim
  | succ k ih =>
    intro v2 S h
    unfold f_X11_four_3_n at h
    refine jB C [(.iload_n 2, 1, 0)] 4 [(0, .ref (b + v0)), (1, .int v1), (2, .int v2)] [.int v2] (by decide +kernel) rfl rfl ?_
    refine jIf_lt C 7 39 (by decide +kernel : decode cX11_four 4 = .ok (.ifCond .lt 35, 3)) rfl rfl (fun c1 => ?_) (fun c1 => ?_)
    · have h := it1 h c1
      exact jRetV C (by decide +kernel : decode cX11_four 39 = .ok (.return_, 1)) (Nat.le_refl _) (Nat.le_refl _) ⟨rfl, h⟩
    · have h := it2 h c1
      refine jB C [(.aload_n 0, 1, 0)] 8 [(0, .ref (b + v0)), (1, .int v1), (2, .int v2)] [.ref (b + v0)] (by decide +kernel) rfl rfl ?_
      obtain ⟨a2, e_a2, h⟩ := h
      refine jGetR C 11 (by decide +kernel : decode cX11_four 8 = .ok (.getfield 38, 3)) rfl t_v0 kX11 13 (by decide) rfl rfl (by decide) wd_1167 e_a2 rfl (fun t_a2 => ?_)
      refine jB C [(.aload_n 0, 1, 0)] 12 [(0, .ref (b + v0)), (1, .int v1), (2, .int v2)] [.ref (b + v0), .ref (b + a2)] (by decide +kernel) rfl rfl ?_
      refine jGetI C 15 (by decide +kernel : decode cX11_four 12 = .ok (.getfield 259, 3)) rfl t_v0 kX11 14 (by decide) rfl rfl (by decide) wd_1168 ?_
      refine jB C [(.iload_n 1, 1, 0), (.iload_n 2, 1, 0), (.ishr, 1, 0), (.sipush 255, 3, 255), (.iand, 1, 0)] 22 [(0, .ref (b + v0)), (1, .int v1), (2, .int v2)] [.int ((v1 >>> ((v2 : Int32) &&& 31)) &&& 255), .int (S.1 v0 14), .ref (b + a2)] (by decide +kernel) rfl rfl ?_
      obtain ⟨y3, h⟩ := h
      refine jIast C 23 (by decide +kernel : decode cX11_four 22 = .ok (.iastore, 1)) rfl hE t_a2 y3 ?_
      refine jTopS (fun S4 e_S4 => ?_)
      have h := h S4 e_S4
      refine jB C [(.aload_n 0, 1, 0), (.dup, 1, 0)] 25 [(0, .ref (b + v0)), (1, .int v1), (2, .int v2)] [.ref (b + v0), .ref (b + v0)] (by decide +kernel) rfl rfl ?_
      refine jGetI C 28 (by decide +kernel : decode cX11_four 25 = .ok (.getfield 259, 3)) rfl t_v0 kX11 14 (by decide) rfl rfl (by decide) wd_1168 ?_
      refine jB C [(.iconst 1, 1, 1), (.iadd, 1, 0)] 30 [(0, .ref (b + v0)), (1, .int v1), (2, .int v2)] [.int ((S4.1 v0 14) + 1), .ref (b + v0)] (by decide +kernel) rfl rfl ?_
      refine jPutI C 33 (by decide +kernel : decode cX11_four 30 = .ok (.putfield 259, 3)) rfl hE t_v0 kX11 14 (by decide) rfl rfl (by decide) rfl wd_1168 rfl rfl rfl ?_
      refine jTopS (fun S5 e_S5 => ?_)
      have h := h S5 e_S5
      refine jB C [(.iinc 2 (-8), 3, (-8))] 36 [(2, .int (v2 + (-8))), (0, .ref (b + v0)), (1, .int v1)] [] (by decide +kernel) rfl rfl ?_
      refine jGoto C 3 (by decide +kernel : decode cX11_four 36 = .ok (.goto (-33), 3)) rfl ?_
      refine jSub [1, 2, 0] rfl ?_
      exact ih (v2 + (-8)) S5 h
theorem j_X11_four_3 {p : Program} {l : Launch} {e : Env} {s : State} {m : MethodId} {args : Array Value} {below : List Frame} {meth : Method} {c : Code} {b : Nat} {D : va_G} {cy : Nat → ClassId} {G : Gm} {v0 : Nat} {v1 : Int32} {v2 : Int32} {S : St} {Q : St → Prop} (C : CX p s m args meth c b D cy cX11_four RX11 3 none) (hE : s.heap.size + 0 ≤ b + G.2.2) (t_v0 : ok G 10 v0) (h : f_X11_four_3 G v0 v1 Q v2 S) : J p l e rm_X11_four s m args below meth c b D cy 3 (zV b D cy below args s G Q) 0 0 G S 3 [(0, .ref (b + v0)), (1, .int v1), (2, .int v2)] [] := by
  obtain ⟨k, h⟩ := h
  exact j_X11_four_3_n C hE t_v0 k v2 S h
set_option maxHeartbeats 4000000 in
set_option maxRecDepth 100000 in
theorem j_X11_four {p : Program} {l : Launch} {e : Env} {s : State} {m : MethodId} {args : Array Value} {below : List Frame} {meth : Method} {c : Code} {b : Nat} {D : va_G} {cy : Nat → ClassId} {G : Gm} {v0 : Nat} {v1 : Int32} {S : St} {Q : St → Prop} (C : CX p s m args meth c b D cy cX11_four RX11 3 none) (hE : s.heap.size + 0 ≤ b + G.2.2) (t_v0 : ok G 10 v0) (h : f_X11_four G v0 v1 Q S) : J p l e rm_X11_four s m args below meth c b D cy 3 (zV b D cy below args s G Q) 0 0 G S 0 [(0, .ref (b + v0)), (1, .int v1)] [] := by
  unfold f_X11_four at h
  refine jB C [(.bipush 24, 2, 24), (.istore_n 2, 1, 0)] 3 [(2, .int 24), (0, .ref (b + v0)), (1, .int v1)] [] (by decide +kernel) rfl rfl ?_
  refine jSub [1, 2, 0] rfl ?_
  exact j_X11_four_3 C hE t_v0 h
theorem ok_X11_four {G : Gm} {v0 : Nat} {v1 : Int32} {S : St} {Q : St → Prop}  (t_v0 : ok G 10 v0) (h : f_X11_four G v0 v1 Q S) : MT yX11_four cX11_four 3 none rm_X11_four 0 0 (fun b => [.ref (b + v0), .int v1]) G S (QV (fun G1 S1 => G1 = G ∧ Q S1)) := MT.ofJ (by decide +kernel) (fun b => [(0, .ref (b + v0)), (1, .int v1)]) (fun b => rfl) (fun b => Nat.le_of_ble_eq_true rfl) (fun l b D cy p e s m below meth c C hE hn => j_X11_four C hE t_v0 h)
theorem hd_X11_four : yX11_four.cls ≠ "java/lang/invoke/MethodHandle" ∧ yX11_four.cls ≠ "java/lang/invoke/VarHandle" ∧ (parseMethodDescriptor yX11_four.desc).map (fun d => d.parameters.length) = some 1 := by decide +kernel
abbrev rm_X11_feed : Room := { frames := 1, cells := 0, slots := 0, locals := 22 }
set_option maxHeartbeats 4000000 in
set_option maxRecDepth 100000 in
theorem j_X11_feed {p : Program} {l : Launch} {e : Env} {s : State} {m : MethodId} {args : Array Value} {below : List Frame} {meth : Method} {c : Code} {b : Nat} {D : va_G} {cy : Nat → ClassId} {G : Gm} {v0 : Nat} {v1 : Int32} {v2 : Int32} {v3 : Int32} {v4 : Int32} {v5 : Int32} {S : St} {Q : Int32 → St → Prop} (C : CX p s m args meth c b D cy cX11_feed RX11 6 (some .int)) (hE : s.heap.size + 0 ≤ b + G.2.2) (t_v0 : ok G 10 v0) (h : f_X11_feed G v0 v1 v2 v3 v4 v5 Q S) : J p l e rm_X11_feed s m args below meth c b D cy 6 (zI b D cy below args s G Q) 0 0 G S 0 [(0, .ref (b + v0)), (1, .int v1), (2, .int v2), (3, .int v3), (4, .int v4), (5, .int v5)] [] := by
  unfold f_X11_feed at h
  refine jB C [(.aload_n 0, 1, 0), (.iconst 0, 1, 0)] 2 [(0, .ref (b + v0)), (1, .int v1), (2, .int v2), (3, .int v3), (4, .int v4), (5, .int v5)] [.int 0, .ref (b + v0)] (by decide +kernel) rfl rfl ?_
  refine jPutI C 5 (by decide +kernel : decode cX11_feed 2 = .ok (.putfield 165, 3)) rfl hE t_v0 kX11 0 (by decide) rfl rfl (by decide) rfl wd_1154 rfl rfl rfl ?_
  refine jTopS (fun S1 e_S1 => ?_)
  have h := h S1 e_S1
  refine jB C [(.aload_n 0, 1, 0)] 6 [(0, .ref (b + v0)), (1, .int v1), (2, .int v2), (3, .int v3), (4, .int v4), (5, .int v5)] [.ref (b + v0)] (by decide +kernel) rfl rfl ?_
  refine jGetI C 9 (by decide +kernel : decode cX11_feed 6 = .ok (.getfield 259, 3)) rfl t_v0 kX11 14 (by decide) rfl rfl (by decide) wd_1168 ?_
  refine jB C [(.bipush 20, 2, 20), (.iadd, 1, 0), (.sipush 400, 3, 400)] 15 [(0, .ref (b + v0)), (1, .int v1), (2, .int v2), (3, .int v3), (4, .int v4), (5, .int v5)] [.int 400, .int ((S1.1 v0 14) + 20)] (by decide +kernel) rfl rfl ?_
  refine jIcmp_le C 18 20 (by decide +kernel : decode cX11_feed 15 = .ok (.if_icmp .le 5, 3)) rfl rfl (fun c2 => ?_) (fun c2 => ?_)
  · have h := it1 h c2
    refine jB C [(.aload_n 0, 1, 0), (.iload_n 1, 1, 0)] 22 [(0, .ref (b + v0)), (1, .int v1), (2, .int v2), (3, .int v3), (4, .int v4), (5, .int v5)] [.int v1, .ref (b + v0)] (by decide +kernel) rfl rfl ?_
    refine jcV_V C 25 (rest := []) (ok_X11_four t_v0 h) (by decide +kernel : decode cX11_feed 22 = .ok (.invokevirtual 265, 3)) rfl wd_1500 wd_1502 wp_118 wd_12 wd_1503 ⟨rfl, rfl⟩ hd_X11_four ⟨Nat.le_of_ble_eq_true rfl, Nat.le_of_ble_eq_true rfl⟩ t_v0 kX11 (by decide) rfl rfl rfl (Nat.le_of_ble_eq_true rfl) ⟨Nat.zero_le _, Nat.zero_le _⟩ (fun S3 h => ?_)
    refine jB C [(.aload_n 0, 1, 0), (.iload_n 2, 1, 0)] 27 [(0, .ref (b + v0)), (1, .int v1), (2, .int v2), (3, .int v3), (4, .int v4), (5, .int v5)] [.int v2, .ref (b + v0)] (by decide +kernel) rfl rfl ?_
    refine jcV_V C 30 (rest := []) (ok_X11_four t_v0 h) (by decide +kernel : decode cX11_feed 27 = .ok (.invokevirtual 265, 3)) rfl wd_1500 wd_1502 wp_118 wd_12 wd_1503 ⟨rfl, rfl⟩ hd_X11_four ⟨Nat.le_of_ble_eq_true rfl, Nat.le_of_ble_eq_true rfl⟩ t_v0 kX11 (by decide) rfl rfl rfl (Nat.le_of_ble_eq_true rfl) ⟨Nat.zero_le _, Nat.zero_le _⟩ (fun S4 h => ?_)
    refine jB C [(.aload_n 0, 1, 0), (.iload_n 3, 1, 0)] 32 [(0, .ref (b + v0)), (1, .int v1), (2, .int v2), (3, .int v3), (4, .int v4), (5, .int v5)] [.int v3, .ref (b + v0)] (by decide +kernel) rfl rfl ?_
    refine jcV_V C 35 (rest := []) (ok_X11_four t_v0 h) (by decide +kernel : decode cX11_feed 32 = .ok (.invokevirtual 265, 3)) rfl wd_1500 wd_1502 wp_118 wd_12 wd_1503 ⟨rfl, rfl⟩ hd_X11_four ⟨Nat.le_of_ble_eq_true rfl, Nat.le_of_ble_eq_true rfl⟩ t_v0 kX11 (by decide) rfl rfl rfl (Nat.le_of_ble_eq_true rfl) ⟨Nat.zero_le _, Nat.zero_le _⟩ (fun S5 h => ?_)
    refine jB C [(.aload_n 0, 1, 0), (.iload 4, 2, 0)] 38 [(0, .ref (b + v0)), (1, .int v1), (2, .int v2), (3, .int v3), (4, .int v4), (5, .int v5)] [.int v4, .ref (b + v0)] (by decide +kernel) rfl rfl ?_
    refine jcV_V C 41 (rest := []) (ok_X11_four t_v0 h) (by decide +kernel : decode cX11_feed 38 = .ok (.invokevirtual 265, 3)) rfl wd_1500 wd_1502 wp_118 wd_12 wd_1503 ⟨rfl, rfl⟩ hd_X11_four ⟨Nat.le_of_ble_eq_true rfl, Nat.le_of_ble_eq_true rfl⟩ t_v0 kX11 (by decide) rfl rfl rfl (Nat.le_of_ble_eq_true rfl) ⟨Nat.zero_le _, Nat.zero_le _⟩ (fun S6 h => ?_)
    refine jB C [(.aload_n 0, 1, 0), (.iload 5, 2, 0)] 44 [(0, .ref (b + v0)), (1, .int v1), (2, .int v2), (3, .int v3), (4, .int v4), (5, .int v5)] [.int v5, .ref (b + v0)] (by decide +kernel) rfl rfl ?_
    refine jcV_V C 47 (rest := []) (ok_X11_four t_v0 h) (by decide +kernel : decode cX11_feed 44 = .ok (.invokevirtual 265, 3)) rfl wd_1500 wd_1502 wp_118 wd_12 wd_1503 ⟨rfl, rfl⟩ hd_X11_four ⟨Nat.le_of_ble_eq_true rfl, Nat.le_of_ble_eq_true rfl⟩ t_v0 kX11 (by decide) rfl rfl rfl (Nat.le_of_ble_eq_true rfl) ⟨Nat.zero_le _, Nat.zero_le _⟩ (fun S7 h => ?_)
    refine jB C [(.aload_n 0, 1, 0)] 48 [(0, .ref (b + v0)), (1, .int v1), (2, .int v2), (3, .int v3), (4, .int v4), (5, .int v5)] [.ref (b + v0)] (by decide +kernel) rfl rfl ?_
    refine jGetI C 51 (by decide +kernel : decode cX11_feed 48 = .ok (.getfield 259, 3)) rfl t_v0 kX11 14 (by decide) rfl rfl (by decide) wd_1168 ?_
    exact jRetI C (by decide +kernel : decode cX11_feed 51 = .ok (.ireturn, 1)) (Nat.le_refl _) (Nat.le_refl _) ⟨rfl, h⟩
  · have h := it2 h c2
    refine jB C [(.iconst (-1), 1, (-1))] 19 [(0, .ref (b + v0)), (1, .int v1), (2, .int v2), (3, .int v3), (4, .int v4), (5, .int v5)] [.int (-1)] (by decide +kernel) rfl rfl ?_
    exact jRetI C (by decide +kernel : decode cX11_feed 19 = .ok (.ireturn, 1)) (Nat.le_refl _) (Nat.le_refl _) ⟨rfl, h⟩
theorem ok_X11_feed {G : Gm} {v0 : Nat} {v1 : Int32} {v2 : Int32} {v3 : Int32} {v4 : Int32} {v5 : Int32} {S : St} {Q : Int32 → St → Prop}  (t_v0 : ok G 10 v0) (h : f_X11_feed G v0 v1 v2 v3 v4 v5 Q S) : MT yX11_feed cX11_feed 6 (some .int) rm_X11_feed 0 0 (fun b => [.ref (b + v0), .int v1, .int v2, .int v3, .int v4, .int v5]) G S (QI (fun r G1 S1 => G1 = G ∧ Q r S1)) := MT.ofJ (by decide +kernel) (fun b => [(0, .ref (b + v0)), (1, .int v1), (2, .int v2), (3, .int v3), (4, .int v4), (5, .int v5)]) (fun b => rfl) (fun b => Nat.le_of_ble_eq_true rfl) (fun l b D cy p e s m below meth c C hE hn => j_X11_feed C hE t_v0 h)
theorem hd_X11_feed : yX11_feed.cls ≠ "java/lang/invoke/MethodHandle" ∧ yX11_feed.cls ≠ "java/lang/invoke/VarHandle" ∧ (parseMethodDescriptor yX11_feed.desc).map (fun d => d.parameters.length) = some 5 := by decide +kernel
abbrev rm_X11_isNew : Room := { frames := 0, cells := 0, slots := 0, locals := 0 }
set_option maxHeartbeats 4000000 in
set_option maxRecDepth 100000 in
theorem j_X11_isNew_4_n {p : Program} {l : Launch} {e : Env} {s : State} {m : MethodId} {args : Array Value} {below : List Frame} {meth : Method} {c : Code} {b : Nat} {D : va_G} {cy : Nat → ClassId} {G : Gm} {v0 : Nat} {v1 : Int32} {Q : Int32 → St → Prop} (C : CX p s m args meth c b D cy cX11_isNew RX11 4 (some .boolean)) (hE : s.heap.size + 0 ≤ b + G.2.2) (t_v0 : ok G 10 v0) : ∀ k (v2 : Int32) (v3 : Int32) S, f_X11_isNew_4_n G v0 v1 Q k v2 v3 S → J p l e rm_X11_isNew s m args below meth c b D cy 4 (zI b D cy below args s G Q) 0 0 G S 4 [(0, .ref (b + v0)), (1, .int v1), (2, .int v2), (3, .int v3)] [] := by
  intro k
  induction k with
  | zero => intro v2 v3 S h; exact h.elim
  | succ k ih =>
    intro v2 v3 S h
    unfold f_X11_isNew_4_n at h
    refine jB C [(.iload_n 3, 1, 0), (.iload_n 1, 1, 0)] 6 [(0, .ref (b + v0)), (1, .int v1), (2, .int v2), (3, .int v3)] [.int v1, .int v3] (by decide +kernel) rfl rfl ?_
    refine jIcmp_ge C 9 40 (by decide +kernel : decode cX11_isNew 6 = .ok (.if_icmp .ge 34, 3)) rfl rfl (fun c1 => ?_) (fun c1 => ?_)
    · have h := it1 h c1
      refine jB C [(.iload_n 2, 1, 0)] 41 [(0, .ref (b + v0)), (1, .int v1), (2, .int v2), (3, .int v3)] [.int v2] (by decide +kernel) rfl rfl ?_
      exact jRetZ C (by decide +kernel : decode cX11_isNew 41 = .ok (.ireturn, 1)) (Nat.le_refl _) (Nat.le_refl _) h.1 ⟨rfl, h.2⟩
    · have h := it2 h c1
      refine jB C [(.iload_n 2, 1, 0)] 10 [(0, .ref (b + v0)), (1, .int v1), (2, .int v2), (3, .int v3)] [.int v2] (by decide +kernel) rfl rfl ?_
      refine jIf_eq C 13 32 (by decide +kernel : decode cX11_isNew 10 = .ok (.ifCond .eq 22, 3)) rfl rfl (fun c2 => ?_) (fun c2 => ?_)
      · have h := it1 h c2
        refine jB C [(.iconst 0, 1, 0), (.istore_n 2, 1, 0), (.iinc 3 1, 3, 1)] 37 [(3, .int (v3 + 1)), (2, .int 0), (0, .ref (b + v0)), (1, .int v1)] [] (by decide +kernel) rfl rfl ?_
        refine jGoto C 4 (by decide +kernel : decode cX11_isNew 37 = .ok (.goto (-33), 3)) rfl ?_
        refine jSub [2, 3, 1, 0] rfl ?_
        exact ih 0 (v3 + 1) S h
      · have h := it2 h c2
        refine jB C [(.aload_n 0, 1, 0)] 14 [(0, .ref (b + v0)), (1, .int v1), (2, .int v2), (3, .int v3)] [.ref (b + v0)] (by decide +kernel) rfl rfl ?_
        obtain ⟨a3, e_a3, h⟩ := h
        refine jGetR C 17 (by decide +kernel : decode cX11_isNew 14 = .ok (.getfield 129, 3)) rfl t_v0 kX11 48 (by decide) rfl rfl (by decide) wd_1202 e_a3 rfl (fun t_a3 => ?_)
        refine jB C [(.iload_n 3, 1, 0)] 18 [(0, .ref (b + v0)), (1, .int v1), (2, .int v2), (3, .int v3)] [.int v3, .ref (b + a3)] (by decide +kernel) rfl rfl ?_
        obtain ⟨y4, h⟩ := h
        refine jIald C 19 (by decide +kernel : decode cX11_isNew 18 = .ok (.iaload, 1)) rfl t_a3 y4 ?_
        refine jB C [(.aload_n 0, 1, 0)] 20 [(0, .ref (b + v0)), (1, .int v1), (2, .int v2), (3, .int v3)] [.ref (b + v0), .int (S.1 a3 v3.toNatClampNeg)] (by decide +kernel) rfl rfl ?_
        obtain ⟨a5, e_a5, h⟩ := h
        refine jGetR C 23 (by decide +kernel : decode cX11_isNew 20 = .ok (.getfield 129, 3)) rfl t_v0 kX11 48 (by decide) rfl rfl (by decide) wd_1202 e_a5 rfl (fun t_a5 => ?_)
        refine jB C [(.iload_n 1, 1, 0)] 24 [(0, .ref (b + v0)), (1, .int v1), (2, .int v2), (3, .int v3)] [.int v1, .ref (b + a5), .int (S.1 a3 v3.toNatClampNeg)] (by decide +kernel) rfl rfl ?_
        obtain ⟨y6, h⟩ := h
        refine jIald C 25 (by decide +kernel : decode cX11_isNew 24 = .ok (.iaload, 1)) rfl t_a5 y6 ?_
        refine jIcmp_eq C 28 32 (by decide +kernel : decode cX11_isNew 25 = .ok (.if_icmp .eq 7, 3)) rfl rfl (fun c7 => ?_) (fun c7 => ?_)
        · have h := it1 h c7
          refine jB C [(.iconst 0, 1, 0), (.istore_n 2, 1, 0), (.iinc 3 1, 3, 1)] 37 [(3, .int (v3 + 1)), (2, .int 0), (0, .ref (b + v0)), (1, .int v1)] [] (by decide +kernel) rfl rfl ?_
          refine jGoto C 4 (by decide +kernel : decode cX11_isNew 37 = .ok (.goto (-33), 3)) rfl ?_
          refine jSub [2, 3, 1, 0] rfl ?_
          exact ih 0 (v3 + 1) S h
        · have h := it2 h c7
          refine jB C [(.iconst 1, 1, 1)] 29 [(0, .ref (b + v0)), (1, .int v1), (2, .int v2), (3, .int v3)] [.int 1] (by decide +kernel) rfl rfl ?_
          refine jGoto C 33 (by decide +kernel : decode cX11_isNew 29 = .ok (.goto 4, 3)) rfl ?_
          refine jB C [(.istore_n 2, 1, 0), (.iinc 3 1, 3, 1)] 37 [(3, .int (v3 + 1)), (2, .int 1), (0, .ref (b + v0)), (1, .int v1)] [] (by decide +kernel) rfl rfl ?_
          refine jGoto C 4 (by decide +kernel : decode cX11_isNew 37 = .ok (.goto (-33), 3)) rfl ?_
          refine jSub [2, 3, 1, 0] rfl ?_
          exact ih 1 (v3 + 1) S h
theorem j_X11_isNew_4 {p : Program} {l : Launch} {e : Env} {s : State} {m : MethodId} {args : Array Value} {below : List Frame} {meth : Method} {c : Code} {b : Nat} {D : va_G} {cy : Nat → ClassId} {G : Gm} {v0 : Nat} {v1 : Int32} {v2 : Int32} {v3 : Int32} {S : St} {Q : Int32 → St → Prop} (C : CX p s m args meth c b D cy cX11_isNew RX11 4 (some .boolean)) (hE : s.heap.size + 0 ≤ b + G.2.2) (t_v0 : ok G 10 v0) (h : f_X11_isNew_4 G v0 v1 Q v2 v3 S) : J p l e rm_X11_isNew s m args below meth c b D cy 4 (zI b D cy below args s G Q) 0 0 G S 4 [(0, .ref (b + v0)), (1, .int v1), (2, .int v2), (3, .int v3)] [] := by
  obtain ⟨k, h⟩ := h
  exact j_X11_isNew_4_n C hE t_v0 k v2 v3 S h
set_option maxHeartbeats 4000000 in
set_option maxRecDepth 100000 in
theorem j_X11_isNew {p : Program} {l : Launch} {e : Env} {s : State} {m : MethodId} {args : Array Value} {below : List Frame} {meth : Method} {c : Code} {b : Nat} {D : va_G} {cy : Nat → ClassId} {G : Gm} {v0 : Nat} {v1 : Int32} {S : St} {Q : Int32 → St → Prop} (C : CX p s m args meth c b D cy cX11_isNew RX11 4 (some .boolean)) (hE : s.heap.size + 0 ≤ b + G.2.2) (t_v0 : ok G 10 v0) (h : f_X11_isNew G v0 v1 Q S) : J p l e rm_X11_isNew s m args below meth c b D cy 4 (zI b D cy below args s G Q) 0 0 G S 0 [(0, .ref (b + v0)), (1, .int v1)] [] := by
  unfold f_X11_isNew at h
  refine jB C [(.iconst 1, 1, 1), (.istore_n 2, 1, 0), (.iconst 0, 1, 0), (.istore_n 3, 1, 0)] 4 [(3, .int 0), (2, .int 1), (0, .ref (b + v0)), (1, .int v1)] [] (by decide +kernel) rfl rfl ?_
  refine jSub [2, 3, 1, 0] rfl ?_
  exact j_X11_isNew_4 C hE t_v0 h
theorem ok_X11_isNew {G : Gm} {v0 : Nat} {v1 : Int32} {S : St} {Q : Int32 → St → Prop}  (t_v0 : ok G 10 v0) (h : f_X11_isNew G v0 v1 Q S) : MT yX11_isNew cX11_isNew 4 (some .boolean) rm_X11_isNew 0 0 (fun b => [.ref (b + v0), .int v1]) G S (QI (fun r G1 S1 => G1 = G ∧ Q r S1)) := MT.ofJ (by decide +kernel) (fun b => [(0, .ref (b + v0)), (1, .int v1)]) (fun b => rfl) (fun b => Nat.le_of_ble_eq_true rfl) (fun l b D cy p e s m below meth c C hE hn => j_X11_isNew C hE t_v0 h)
theorem hd_X11_isNew : yX11_isNew.cls ≠ "java/lang/invoke/MethodHandle" ∧ yX11_isNew.cls ≠ "java/lang/invoke/VarHandle" ∧ (parseMethodDescriptor yX11_isNew.desc).map (fun d => d.parameters.length) = some 1 := by decide +kernel
abbrev rm_X11_findFitted : Room := { frames := 1, cells := 0, slots := 0, locals := 23 }
set_option maxHeartbeats 4000000 in
set_option maxRecDepth 100000 in
theorem j_X11_findFitted_153 {p : Program} {l : Launch} {e : Env} {s : State} {m : MethodId} {args : Array Value} {below : List Frame} {meth : Method} {c : Code} {b : Nat} {D : va_G} {cy : Nat → ClassId} {G : Gm} {k18 : Int32 → Int32 → St → Prop} {v0 : Nat} {v1 : Int32} {v2 : Int32} {v3 : Int32} {v4 : Int32} {v5 : Int32} {S : St} {Q : Int32 → St → Prop} (C : CX p s m args meth c b D cy cX11_findFitted RX11 7 (some .int)) (hE : s.heap.size + 0 ≤ b + G.2.2) (t_v0 : ok G 10 v0) (hk18 : ∀ v2' v3' S, k18 v2' v3' S → J p l e rm_X11_findFitted s m args below meth c b D cy 7 (zI b D cy below args s G Q) 0 0 G S 18 [(0, .ref (b + v0)), (1, .int v1), (2, .int (v2')), (3, .int (v3'))] []) (h : f_X11_findFitted_153 G k18 v0 v1 v2 v3 v4 v5 Q S) : J p l e rm_X11_findFitted s m args below meth c b D cy 7 (zI b D cy below args s G Q) 0 0 G S 153 [(0, .ref (b + v0)), (1, .int v1), (2, .int v2), (3, .int v3), (4, .int v4), (5, .int v5)] [] := by
  unfold f_X11_findFitted_153 at h
  refine jB C [(.iload 5, 2, 0)] 155 [(0, .ref (b + v0)), (1, .int v1), (2, .int v2), (3, .int v3), (4, .int v4), (5, .int v5)] [.int v5] (by decide +kernel) rfl rfl ?_
  refine jIf_eq C 158 163 (by decide +kernel : decode cX11_findFitted 155 = .ok (.ifCond .eq 8, 3)) rfl rfl (fun c1 => ?_) (fun c1 => ?_)
  · have h := it1 h c1
    refine jB C [(.iload_n 2, 1, 0), (.istore_n 2, 1, 0), (.iinc 3 (-1), 3, (-1))] 168 [(3, .int (v3 + (-1))), (2, .int v2), (0, .ref (b + v0)), (1, .int v1), (4, .int v4), (5, .int v5)] [] (by decide +kernel) rfl rfl ?_
    refine jGoto C 18 (by decide +kernel : decode cX11_findFitted 168 = .ok (.goto (-150), 3)) rfl ?_
    refine jSub [2, 3, 1, 0] rfl ?_
    exact hk18 v2 (v3 + (-1)) S h
  · have h := it2 h c1
    refine jB C [(.iload 4, 2, 0)] 160 [(0, .ref (b + v0)), (1, .int v1), (2, .int v2), (3, .int v3), (4, .int v4), (5, .int v5)] [.int v4] (by decide +kernel) rfl rfl ?_
    refine jGoto C 164 (by decide +kernel : decode cX11_findFitted 160 = .ok (.goto 4, 3)) rfl ?_
    refine jB C [(.istore_n 2, 1, 0), (.iinc 3 (-1), 3, (-1))] 168 [(3, .int (v3 + (-1))), (2, .int v4), (0, .ref (b + v0)), (1, .int v1), (4, .int v4), (5, .int v5)] [] (by decide +kernel) rfl rfl ?_
    refine jGoto C 18 (by decide +kernel : decode cX11_findFitted 168 = .ok (.goto (-150), 3)) rfl ?_
    refine jSub [2, 3, 1, 0] rfl ?_
    exact hk18 v4 (v3 + (-1)) S h
set_option maxHeartbeats 4000000 in
set_option maxRecDepth 100000 in
theorem j_X11_findFitted_122_n {p : Program} {l : Launch} {e : Env} {s : State} {m : MethodId} {args : Array Value} {below : List Frame} {meth : Method} {c : Code} {b : Nat} {D : va_G} {cy : Nat → ClassId} {G : Gm} {k18 : Int32 → Int32 → St → Prop} {v0 : Nat} {v1 : Int32} {v2 : Int32} {v3 : Int32} {v4 : Int32} {v5 : Int32} {Q : Int32 → St → Prop} (C : CX p s m args meth c b D cy cX11_findFitted RX11 7 (some .int)) (hE : s.heap.size + 0 ≤ b + G.2.2) (t_v0 : ok G 10 v0) (hk18 : ∀ v2' v3' S, k18 v2' v3' S → J p l e rm_X11_findFitted s m args below meth c b D cy 7 (zI b D cy below args s G Q) 0 0 G S 18 [(0, .ref (b + v0)), (1, .int v1), (2, .int (v2')), (3, .int (v3'))] []) : ∀ k (v6 : Int32) S, f_X11_findFitted_122_n G k18 v0 v1 v2 v3 v4 v5 Q k v6 S → J p l e rm_X11_findFitted s m args below meth c b D cy 7 (zI b D cy below args s G Q) 0 0 G S 122 [(0, .ref (b + v0)), (1, .int v1), (2, .int v2), (3, .int v3), (4, .int v4), (5, .int v5), (6, .int v6)] [] := by
  intro k
  induction k with
  | zero => intro v6 S h; exact h.elim
  | succ k ih =>
    intro v6 S h
    unfold f_X11_findFitted_122_n at h
    refine jB C [(.iload 6, 2, 0), (.iload_n 1, 1, 0)] 125 [(0, .ref (b + v0)), (1, .int v1), (2, .int v2), (3, .int v3), (4, .int v4), (5, .int v5), (6, .int v6)] [.int v1, .int v6] (by decide +kernel) rfl rfl ?_
    refine jIcmp_ge C 128 153 (by decide +kernel : decode cX11_findFitted 125 = .ok (.if_icmp .ge 28, 3)) rfl rfl (fun c1 => ?_) (fun c1 => ?_)
    · have h := it1 h c1
      refine jSub [0, 1, 2, 3, 4, 5] rfl ?_
      exact j_X11_findFitted_153 C hE t_v0 hk18 h
    · have h := it2 h c1
      refine jB C [(.iload 5, 2, 0)] 130 [(0, .ref (b + v0)), (1, .int v1), (2, .int v2), (3, .int v3), (4, .int v4), (5, .int v5), (6, .int v6)] [.int v5] (by decide +kernel) rfl rfl ?_
      refine jIf_eq C 133 153 (by decide +kernel : decode cX11_findFitted 130 = .ok (.ifCond .eq 23, 3)) rfl rfl (fun c2 => ?_) (fun c2 => ?_)
      · have h := it1 h c2
        refine jSub [0, 1, 2, 3, 4, 5] rfl ?_
        exact j_X11_findFitted_153 C hE t_v0 hk18 h
      · have h := it2 h c2
        refine jB C [(.aload_n 0, 1, 0)] 134 [(0, .ref (b + v0)), (1, .int v1), (2, .int v2), (3, .int v3), (4, .int v4), (5, .int v5), (6, .int v6)] [.ref (b + v0)] (by decide +kernel) rfl rfl ?_
        obtain ⟨a3, e_a3, h⟩ := h
        refine jGetR C 137 (by decide +kernel : decode cX11_findFitted 134 = .ok (.getfield 132, 3)) rfl t_v0 kX11 49 (by decide) rfl rfl (by decide) wd_1203 e_a3 rfl (fun t_a3 => ?_)
        refine jB C [(.iload 6, 2, 0), (.aload_n 0, 1, 0)] 140 [(0, .ref (b + v0)), (1, .int v1), (2, .int v2), (3, .int v3), (4, .int v4), (5, .int v5), (6, .int v6)] [.ref (b + v0), .int v6, .ref (b + a3)] (by decide +kernel) rfl rfl ?_
        obtain ⟨a4, e_a4, h⟩ := h
        refine jGetR C 143 (by decide +kernel : decode cX11_findFitted 140 = .ok (.getfield 129, 3)) rfl t_v0 kX11 48 (by decide) rfl rfl (by decide) wd_1202 e_a4 rfl (fun t_a4 => ?_)
        refine jB C [(.iload 6, 2, 0)] 145 [(0, .ref (b + v0)), (1, .int v1), (2, .int v2), (3, .int v3), (4, .int v4), (5, .int v5), (6, .int v6)] [.int v6, .ref (b + a4), .int v6, .ref (b + a3)] (by decide +kernel) rfl rfl ?_
        obtain ⟨y5, h⟩ := h
        refine jIald C 146 (by decide +kernel : decode cX11_findFitted 145 = .ok (.iaload, 1)) rfl t_a4 y5 ?_
        obtain ⟨y6, h⟩ := h
        refine jIast C 147 (by decide +kernel : decode cX11_findFitted 146 = .ok (.iastore, 1)) rfl hE t_a3 y6 ?_
        refine jTopS (fun S7 e_S7 => ?_)
        have h := h S7 e_S7
        refine jB C [(.iinc 6 1, 3, 1)] 150 [(6, .int (v6 + 1)), (0, .ref (b + v0)), (1, .int v1), (2, .int v2), (3, .int v3), (4, .int v4), (5, .int v5)] [] (by decide +kernel) rfl rfl ?_
        refine jGoto C 122 (by decide +kernel : decode cX11_findFitted 150 = .ok (.goto (-28), 3)) rfl ?_
        refine jSub [1, 2, 3, 4, 5, 6, 0] rfl ?_
        exact ih (v6 + 1) S7 h
theorem j_X11_findFitted_122 {p : Program} {l : Launch} {e : Env} {s : State} {m : MethodId} {args : Array Value} {below : List Frame} {meth : Method} {c : Code} {b : Nat} {D : va_G} {cy : Nat → ClassId} {G : Gm} {k18 : Int32 → Int32 → St → Prop} {v0 : Nat} {v1 : Int32} {v2 : Int32} {v3 : Int32} {v4 : Int32} {v5 : Int32} {v6 : Int32} {S : St} {Q : Int32 → St → Prop} (C : CX p s m args meth c b D cy cX11_findFitted RX11 7 (some .int)) (hE : s.heap.size + 0 ≤ b + G.2.2) (t_v0 : ok G 10 v0) (hk18 : ∀ v2' v3' S, k18 v2' v3' S → J p l e rm_X11_findFitted s m args below meth c b D cy 7 (zI b D cy below args s G Q) 0 0 G S 18 [(0, .ref (b + v0)), (1, .int v1), (2, .int (v2')), (3, .int (v3'))] []) (h : f_X11_findFitted_122 G k18 v0 v1 v2 v3 v4 v5 Q v6 S) : J p l e rm_X11_findFitted s m args below meth c b D cy 7 (zI b D cy below args s G Q) 0 0 G S 122 [(0, .ref (b + v0)), (1, .int v1), (2, .int v2), (3, .int v3), (4, .int v4), (5, .int v5), (6, .int v6)] [] := by
  obtain ⟨k, h⟩ := h
  exact j_X11_findFitted_122_n C hE t_v0 hk18 k v6 S h
set_option maxHeartbeats 4000000 in
set_option maxRecDepth 100000 in
theorem j_X11_findFitted_101 {p : Program} {l : Launch} {e : Env} {s : State} {m : MethodId} {args : Array Value} {below : List Frame} {meth : Method} {c : Code} {b : Nat} {D : va_G} {cy : Nat → ClassId} {G : Gm} {k18 : Int32 → Int32 → St → Prop} {v0 : Nat} {v1 : Int32} {v2 : Int32} {v3 : Int32} {v4 : Int32} {S : St} {Q : Int32 → St → Prop} (C : CX p s m args meth c b D cy cX11_findFitted RX11 7 (some .int)) (hE : s.heap.size + 0 ≤ b + G.2.2) (t_v0 : ok G 10 v0) (hk18 : ∀ v2' v3' S, k18 v2' v3' S → J p l e rm_X11_findFitted s m args below meth c b D cy 7 (zI b D cy below args s G Q) 0 0 G S 18 [(0, .ref (b + v0)), (1, .int v1), (2, .int (v2')), (3, .int (v3'))] []) (h : f_X11_findFitted_101 G k18 v0 v1 v2 v3 v4 Q S) : J p l e rm_X11_findFitted s m args below meth c b D cy 7 (zI b D cy below args s G Q) 0 0 G S 101 [(0, .ref (b + v0)), (1, .int v1), (2, .int v2), (3, .int v3), (4, .int v4)] [] := by
  unfold f_X11_findFitted_101 at h
  refine jB C [(.iload_n 3, 1, 0), (.iload_n 1, 1, 0)] 103 [(0, .ref (b + v0)), (1, .int v1), (2, .int v2), (3, .int v3), (4, .int v4)] [.int v1, .int v3] (by decide +kernel) rfl rfl ?_
  refine jIcmp_ne C 106 116 (by decide +kernel : decode cX11_findFitted 103 = .ok (.if_icmp .ne 13, 3)) rfl rfl (fun c1 => ?_) (fun c1 => ?_)
  · have h := it2 h c1
    refine jB C [(.iconst 0, 1, 0), (.istore 5, 2, 0), (.iconst 0, 1, 0), (.istore 6, 2, 0)] 122 [(6, .int 0), (5, .int 0), (0, .ref (b + v0)), (1, .int v1), (2, .int v2), (3, .int v3), (4, .int v4)] [] (by decide +kernel) rfl rfl ?_
    refine jSub [2, 3, 4, 5, 6, 1, 0] rfl ?_
    exact j_X11_findFitted_122 C hE t_v0 hk18 h
  · have h := it1 h c1
    refine jB C [(.iload 4, 2, 0), (.iload_n 2, 1, 0)] 109 [(0, .ref (b + v0)), (1, .int v1), (2, .int v2), (3, .int v3), (4, .int v4)] [.int v2, .int v4] (by decide +kernel) rfl rfl ?_
    refine jIcmp_le C 112 116 (by decide +kernel : decode cX11_findFitted 109 = .ok (.if_icmp .le 7, 3)) rfl rfl (fun c2 => ?_) (fun c2 => ?_)
    · have h := it1 h c2
      refine jB C [(.iconst 0, 1, 0), (.istore 5, 2, 0), (.iconst 0, 1, 0), (.istore 6, 2, 0)] 122 [(6, .int 0), (5, .int 0), (0, .ref (b + v0)), (1, .int v1), (2, .int v2), (3, .int v3), (4, .int v4)] [] (by decide +kernel) rfl rfl ?_
      refine jSub [2, 3, 4, 5, 6, 1, 0] rfl ?_
      exact j_X11_findFitted_122 C hE t_v0 hk18 h
    · have h := it2 h c2
      refine jB C [(.iconst 1, 1, 1)] 113 [(0, .ref (b + v0)), (1, .int v1), (2, .int v2), (3, .int v3), (4, .int v4)] [.int 1] (by decide +kernel) rfl rfl ?_
      refine jGoto C 117 (by decide +kernel : decode cX11_findFitted 113 = .ok (.goto 4, 3)) rfl ?_
      refine jB C [(.istore 5, 2, 0), (.iconst 0, 1, 0), (.istore 6, 2, 0)] 122 [(6, .int 0), (5, .int 1), (0, .ref (b + v0)), (1, .int v1), (2, .int v2), (3, .int v3), (4, .int v4)] [] (by decide +kernel) rfl rfl ?_
      refine jSub [2, 3, 4, 5, 6, 1, 0] rfl ?_
      exact j_X11_findFitted_122 C hE t_v0 hk18 h
set_option maxHeartbeats 4000000 in
set_option maxRecDepth 100000 in
theorem j_X11_findFitted_53_n {p : Program} {l : Launch} {e : Env} {s : State} {m : MethodId} {args : Array Value} {below : List Frame} {meth : Method} {c : Code} {b : Nat} {D : va_G} {cy : Nat → ClassId} {G : Gm} {k18 : Int32 → Int32 → St → Prop} {v0 : Nat} {v1 : Int32} {v2 : Int32} {v3 : Int32} {Q : Int32 → St → Prop} (C : CX p s m args meth c b D cy cX11_findFitted RX11 7 (some .int)) (hE : s.heap.size + 0 ≤ b + G.2.2) (t_v0 : ok G 10 v0) (hk18 : ∀ v2' v3' S, k18 v2' v3' S → J p l e rm_X11_findFitted s m args below meth c b D cy 7 (zI b D cy below args s G Q) 0 0 G S 18 [(0, .ref (b + v0)), (1, .int v1), (2, .int (v2')), (3, .int (v3'))] []) : ∀ k (v4 : Int32) (v5 : Int32) S, f_X11_findFitted_53_n G k18 v0 v1 v2 v3 Q k v4 v5 S → J p l e rm_X11_findFitted s m args below meth c b D cy 7 (zI b D cy below args s G Q) 0 0 G S 53 [(0, .ref (b + v0)), (1, .int v1), (2, .int v2), (3, .int v3), (4, .int v4), (5, .int v5)] [] := by
  intro k
  induction k with
  | zero => intro v4 v5 S h; exact h.elim
  | succ k ih =>
    intro v4 v5 S h
    unfold f_X11_findFitted_53_n at h
    refine jB C [(.iload 5, 2, 0), (.iload_n 1, 1, 0)] 56 [(0, .ref (b + v0)), (1, .int v1), (2, .int v2), (3, .int v3), (4, .int v4), (5, .int v5)] [.int v1, .int v5] (by decide +kernel) rfl rfl ?_
    refine jIcmp_ge C 59 101 (by decide +kernel : decode cX11_findFitted 56 = .ok (.if_icmp .ge 45, 3)) rfl rfl (fun c1 => ?_) (fun c1 => ?_)
    · have h := it1 h c1
      refine jSub [0, 1, 2, 3, 4] rfl ?_
      exact j_X11_findFitted_101 C hE t_v0 hk18 h
    · have h := it2 h c1
      refine jB C [(.iload_n 3, 1, 0), (.iload_n 1, 1, 0)] 61 [(0, .ref (b + v0)), (1, .int v1), (2, .int v2), (3, .int v3), (4, .int v4), (5, .int v5)] [.int v1, .int v3] (by decide +kernel) rfl rfl ?_
      refine jIcmp_ne C 64 101 (by decide +kernel : decode cX11_findFitted 61 = .ok (.if_icmp .ne 40, 3)) rfl rfl (fun c2 => ?_) (fun c2 => ?_)
      · have h := it2 h c2
        refine jSub [0, 1, 2, 3, 4] rfl ?_
        exact j_X11_findFitted_101 C hE t_v0 hk18 h
      · have h := it1 h c2
        refine jB C [(.iload 4, 2, 0), (.aload_n 0, 1, 0)] 67 [(0, .ref (b + v0)), (1, .int v1), (2, .int v2), (3, .int v3), (4, .int v4), (5, .int v5)] [.ref (b + v0), .int v4] (by decide +kernel) rfl rfl ?_
        obtain ⟨a3, e_a3, h⟩ := h
        refine jGetR C 70 (by decide +kernel : decode cX11_findFitted 67 = .ok (.getfield 126, 3)) rfl t_v0 kX11 47 (by decide) rfl rfl (by decide) wd_1201 e_a3 rfl (fun t_a3 => ?_)
        refine jB C [(.bipush 6, 2, 6), (.iload 5, 2, 0), (.imul, 1, 0), (.aload_n 0, 1, 0)] 76 [(0, .ref (b + v0)), (1, .int v1), (2, .int v2), (3, .int v3), (4, .int v4), (5, .int v5)] [.ref (b + v0), .int (6 * v5), .ref (b + a3), .int v4] (by decide +kernel) rfl rfl ?_
        obtain ⟨a4, e_a4, h⟩ := h
        refine jGetR C 79 (by decide +kernel : decode cX11_findFitted 76 = .ok (.getfield 129, 3)) rfl t_v0 kX11 48 (by decide) rfl rfl (by decide) wd_1202 e_a4 rfl (fun t_a4 => ?_)
        refine jB C [(.iload 5, 2, 0)] 81 [(0, .ref (b + v0)), (1, .int v1), (2, .int v2), (3, .int v3), (4, .int v4), (5, .int v5)] [.int v5, .ref (b + a4), .int (6 * v5), .ref (b + a3), .int v4] (by decide +kernel) rfl rfl ?_
        obtain ⟨y5, h⟩ := h
        refine jIald C 82 (by decide +kernel : decode cX11_findFitted 81 = .ok (.iaload, 1)) rfl t_a4 y5 ?_
        refine jB C [(.iadd, 1, 0)] 83 [(0, .ref (b + v0)), (1, .int v1), (2, .int v2), (3, .int v3), (4, .int v4), (5, .int v5)] [.int ((6 * v5) + (S.1 a4 v5.toNatClampNeg)), .ref (b + a3), .int v4] (by decide +kernel) rfl rfl ?_
        obtain ⟨y6, h⟩ := h
        refine jZald C 84 (by decide +kernel : decode cX11_findFitted 83 = .ok (.baload, 1)) rfl t_a3 y6 ?_
        refine jIf_eq C 87 91 (by decide +kernel : decode cX11_findFitted 84 = .ok (.ifCond .eq 7, 3)) rfl rfl (fun c7 => ?_) (fun c7 => ?_)
        · have h := it1 h c7
          refine jB C [(.iconst 0, 1, 0), (.iadd, 1, 0)] 93 [(0, .ref (b + v0)), (1, .int v1), (2, .int v2), (3, .int v3), (4, .int v4), (5, .int v5)] [.int (v4 + 0)] (by decide +kernel) rfl rfl ?_
          refine jTopI (fun x8 e_x8 => ?_)
          have h := h x8 e_x8
          refine jB C [(.istore 4, 2, 0), (.iinc 5 1, 3, 1)] 98 [(5, .int (v5 + 1)), (4, .int x8), (0, .ref (b + v0)), (1, .int v1), (2, .int v2), (3, .int v3)] [] (by decide +kernel) rfl rfl ?_
          refine jGoto C 53 (by decide +kernel : decode cX11_findFitted 98 = .ok (.goto (-45), 3)) rfl ?_
          refine jSub [2, 3, 4, 5, 1, 0] rfl ?_
          exact ih x8 (v5 + 1) S h
        · have h := it2 h c7
          refine jB C [(.iconst 1, 1, 1)] 88 [(0, .ref (b + v0)), (1, .int v1), (2, .int v2), (3, .int v3), (4, .int v4), (5, .int v5)] [.int 1, .int v4] (by decide +kernel) rfl rfl ?_
          refine jGoto C 92 (by decide +kernel : decode cX11_findFitted 88 = .ok (.goto 4, 3)) rfl ?_
          refine jB C [(.iadd, 1, 0)] 93 [(0, .ref (b + v0)), (1, .int v1), (2, .int v2), (3, .int v3), (4, .int v4), (5, .int v5)] [.int (v4 + 1)] (by decide +kernel) rfl rfl ?_
          refine jTopI (fun x9 e_x9 => ?_)
          have h := h x9 e_x9
          refine jB C [(.istore 4, 2, 0), (.iinc 5 1, 3, 1)] 98 [(5, .int (v5 + 1)), (4, .int x9), (0, .ref (b + v0)), (1, .int v1), (2, .int v2), (3, .int v3)] [] (by decide +kernel) rfl rfl ?_
          refine jGoto C 53 (by decide +kernel : decode cX11_findFitted 98 = .ok (.goto (-45), 3)) rfl ?_
          refine jSub [2, 3, 4, 5, 1, 0] rfl ?_
          exact ih x9 (v5 + 1) S h
theorem j_X11_findFitted_53 {p : Program} {l : Launch} {e : Env} {s : State} {m : MethodId} {args : Array Value} {below : List Frame} {meth : Method} {c : Code} {b : Nat} {D : va_G} {cy : Nat → ClassId} {G : Gm} {k18 : Int32 → Int32 → St → Prop} {v0 : Nat} {v1 : Int32} {v2 : Int32} {v3 : Int32} {v4 : Int32} {v5 : Int32} {S : St} {Q : Int32 → St → Prop} (C : CX p s m args meth c b D cy cX11_findFitted RX11 7 (some .int)) (hE : s.heap.size + 0 ≤ b + G.2.2) (t_v0 : ok G 10 v0) (hk18 : ∀ v2' v3' S, k18 v2' v3' S → J p l e rm_X11_findFitted s m args below meth c b D cy 7 (zI b D cy below args s G Q) 0 0 G S 18 [(0, .ref (b + v0)), (1, .int v1), (2, .int (v2')), (3, .int (v3'))] []) (h : f_X11_findFitted_53 G k18 v0 v1 v2 v3 Q v4 v5 S) : J p l e rm_X11_findFitted s m args below meth c b D cy 7 (zI b D cy below args s G Q) 0 0 G S 53 [(0, .ref (b + v0)), (1, .int v1), (2, .int v2), (3, .int v3), (4, .int v4), (5, .int v5)] [] := by
  obtain ⟨k, h⟩ := h
  exact j_X11_findFitted_53_n C hE t_v0 hk18 k v4 v5 S h
set_option maxHeartbeats 4000000 in
set_option maxRecDepth 100000 in
theorem j_X11_findFitted_18_n {p : Program} {l : Launch} {e : Env} {s : State} {m : MethodId} {args : Array Value} {below : List Frame} {meth : Method} {c : Code} {b : Nat} {D : va_G} {cy : Nat → ClassId} {G : Gm} {v0 : Nat} {v1 : Int32} {Q : Int32 → St → Prop} (C : CX p s m args meth c b D cy cX11_findFitted RX11 7 (some .int)) (hE : s.heap.size + 0 ≤ b + G.2.2) (t_v0 : ok G 10 v0) : ∀ k (v2 : Int32) (v3 : Int32) S, f_X11_findFitted_18_n G v0 v1 Q k v2 v3 S → J p l e rm_X11_findFitted s m args below meth c b D cy 7 (zI b D cy below args s G Q) 0 0 G S 18 [(0, .ref (b + v0)), (1, .int v1), (2, .int v2), (3, .int v3)] [] := by
  intro k
  induction k with
  | zero => intro v2 v3 S h; exact h.elim
  | succ k ih =>
    intro v2 v3 S h
    unfold f_X11_findFitted_18_n at h
    refine jB C [(.iload_n 3, 1, 0)] 19 [(0, .ref (b + v0)), (1, .int v1), (2, .int v2), (3, .int v3)] [.int v3] (by decide +kernel) rfl rfl ?_
    refine jIf_lt C 22 192 (by decide +kernel : decode cX11_findFitted 19 = .ok (.ifCond .lt 173, 3)) rfl rfl (fun c1 => ?_) (fun c1 => ?_)
    · have h := it1 h c1
      refine jB C [(.iload_n 2, 1, 0)] 193 [(0, .ref (b + v0)), (1, .int v1), (2, .int v2), (3, .int v3)] [.int v2] (by decide +kernel) rfl rfl ?_
      exact jRetI C (by decide +kernel : decode cX11_findFitted 193 = .ok (.ireturn, 1)) (Nat.le_refl _) (Nat.le_refl _) ⟨rfl, h⟩
    · have h := it2 h c1
      refine jB C [(.aload_n 0, 1, 0)] 23 [(0, .ref (b + v0)), (1, .int v1), (2, .int v2), (3, .int v3)] [.ref (b + v0)] (by decide +kernel) rfl rfl ?_
      obtain ⟨a2, e_a2, h⟩ := h
      refine jGetR C 26 (by decide +kernel : decode cX11_findFitted 23 = .ok (.getfield 129, 3)) rfl t_v0 kX11 48 (by decide) rfl rfl (by decide) wd_1202 e_a2 rfl (fun t_a2 => ?_)
      refine jB C [(.iload_n 3, 1, 0), (.dup2, 1, 0)] 28 [(0, .ref (b + v0)), (1, .int v1), (2, .int v2), (3, .int v3)] [.int v3, .ref (b + a2), .int v3, .ref (b + a2)] (by decide +kernel) rfl rfl ?_
      obtain ⟨y3, h⟩ := h
      refine jIald C 29 (by decide +kernel : decode cX11_findFitted 28 = .ok (.iaload, 1)) rfl t_a2 y3 ?_
      refine jB C [(.iconst 1, 1, 1), (.iadd, 1, 0)] 31 [(0, .ref (b + v0)), (1, .int v1), (2, .int v2), (3, .int v3)] [.int ((S.1 a2 v3.toNatClampNeg) + 1), .int v3, .ref (b + a2)] (by decide +kernel) rfl rfl ?_
      obtain ⟨y4, h⟩ := h
      refine jIast C 32 (by decide +kernel : decode cX11_findFitted 31 = .ok (.iastore, 1)) rfl hE t_a2 y4 ?_
      refine jTopS (fun S5 e_S5 => ?_)
      have h := h S5 e_S5
      refine jB C [(.iload_n 3, 1, 0), (.iload_n 1, 1, 0)] 34 [(0, .ref (b + v0)), (1, .int v1), (2, .int v2), (3, .int v3)] [.int v1, .int v3] (by decide +kernel) rfl rfl ?_
      refine jIcmp_eq C 37 47 (by decide +kernel : decode cX11_findFitted 34 = .ok (.if_icmp .eq 13, 3)) rfl rfl (fun c6 => ?_) (fun c6 => ?_)
      · have h := it1 h c6
        refine jB C [(.iconst 0, 1, 0), (.istore 4, 2, 0), (.iconst 0, 1, 0), (.istore 5, 2, 0)] 53 [(5, .int 0), (4, .int 0), (0, .ref (b + v0)), (1, .int v1), (2, .int v2), (3, .int v3)] [] (by decide +kernel) rfl rfl ?_
        refine jSub [2, 3, 4, 5, 1, 0] rfl ?_
        exact j_X11_findFitted_53 C hE t_v0 ih h
      · have h := it2 h c6
        refine jB C [(.aload_n 0, 1, 0)] 38 [(0, .ref (b + v0)), (1, .int v1), (2, .int v2), (3, .int v3)] [.ref (b + v0)] (by decide +kernel) rfl rfl ?_
        obtain ⟨a7, e_a7, h⟩ := h
        refine jGetR C 41 (by decide +kernel : decode cX11_findFitted 38 = .ok (.getfield 129, 3)) rfl t_v0 kX11 48 (by decide) rfl rfl (by decide) wd_1202 e_a7 rfl (fun t_a7 => ?_)
        refine jB C [(.iload_n 3, 1, 0)] 42 [(0, .ref (b + v0)), (1, .int v1), (2, .int v2), (3, .int v3)] [.int v3, .ref (b + a7)] (by decide +kernel) rfl rfl ?_
        obtain ⟨y8, h⟩ := h
        refine jIald C 43 (by decide +kernel : decode cX11_findFitted 42 = .ok (.iaload, 1)) rfl t_a7 y8 ?_
        refine jB C [(.iload_n 1, 1, 0)] 44 [(0, .ref (b + v0)), (1, .int v1), (2, .int v2), (3, .int v3)] [.int v1, .int (S5.1 a7 v3.toNatClampNeg)] (by decide +kernel) rfl rfl ?_
        refine jIcmp_lt C 47 171 (by decide +kernel : decode cX11_findFitted 44 = .ok (.if_icmp .lt 127, 3)) rfl rfl (fun c9 => ?_) (fun c9 => ?_)
        · have h := it1 h c9
          refine jB C [(.aload_n 0, 1, 0), (.iload_n 3, 1, 0)] 173 [(0, .ref (b + v0)), (1, .int v1), (2, .int v2), (3, .int v3)] [.int v3, .ref (b + v0)] (by decide +kernel) rfl rfl ?_
          refine jcV_I C 176 (rest := []) (ok_X11_isNew t_v0 h) (by decide +kernel : decode cX11_findFitted 173 = .ok (.invokevirtual 508, 3)) rfl wd_1756 wd_1758 wp_160 wd_12 wd_1759 ⟨rfl, rfl⟩ hd_X11_isNew ⟨Nat.le_of_ble_eq_true rfl, Nat.le_of_ble_eq_true rfl⟩ t_v0 kX11 (by decide) rfl rfl rfl (Nat.le_of_ble_eq_true rfl) ⟨Nat.zero_le _, Nat.zero_le _⟩ (fun r11 S10 h => ?_)
          refine jIf_eq C 179 18 (by decide +kernel : decode cX11_findFitted 176 = .ok (.ifCond .eq (-158), 3)) rfl rfl (fun c12 => ?_) (fun c12 => ?_)
          · have h := it1 h c12
            refine jSub [0, 1, 2, 3] rfl ?_
            exact ih v2 v3 S10 h
          · have h := it2 h c12
            refine jB C [(.iinc 3 1, 3, 1), (.aload_n 0, 1, 0)] 183 [(3, .int (v3 + 1)), (0, .ref (b + v0)), (1, .int v1), (2, .int v2)] [.ref (b + v0)] (by decide +kernel) rfl rfl ?_
            obtain ⟨a13, e_a13, h⟩ := h
            refine jGetR C 186 (by decide +kernel : decode cX11_findFitted 183 = .ok (.getfield 129, 3)) rfl t_v0 kX11 48 (by decide) rfl rfl (by decide) wd_1202 e_a13 rfl (fun t_a13 => ?_)
            refine jB C [(.iload_n 3, 1, 0), (.iconst (-1), 1, (-1))] 188 [(3, .int (v3 + 1)), (0, .ref (b + v0)), (1, .int v1), (2, .int v2)] [.int (-1), .int (v3 + 1), .ref (b + a13)] (by decide +kernel) rfl rfl ?_
            obtain ⟨y14, h⟩ := h
            refine jIast C 189 (by decide +kernel : decode cX11_findFitted 188 = .ok (.iastore, 1)) rfl hE t_a13 y14 ?_
            refine jTopS (fun S15 e_S15 => ?_)
            have h := h S15 e_S15
            refine jGoto C 18 (by decide +kernel : decode cX11_findFitted 189 = .ok (.goto (-171), 3)) rfl ?_
            refine jSub [1, 2, 3, 0] rfl ?_
            exact ih v2 (v3 + 1) S15 h
        · have h := it2 h c9
          refine jB C [(.iconst 0, 1, 0), (.istore 4, 2, 0), (.iconst 0, 1, 0), (.istore 5, 2, 0)] 53 [(5, .int 0), (4, .int 0), (0, .ref (b + v0)), (1, .int v1), (2, .int v2), (3, .int v3)] [] (by decide +kernel) rfl rfl ?_
          refine jSub [2, 3, 4, 5, 1, 0] rfl ?_
          exact j_X11_findFitted_53 C hE t_v0 ih h
theorem j_X11_findFitted_18 {p : Program} {l : Launch} {e : Env} {s : State} {m : MethodId} {args : Array Value} {below : List Frame} {meth : Method} {c : Code} {b : Nat} {D : va_G} {cy : Nat → ClassId} {G : Gm} {v0 : Nat} {v1 : Int32} {v2 : Int32} {v3 : Int32} {S : St} {Q : Int32 → St → Prop} (C : CX p s m args meth c b D cy cX11_findFitted RX11 7 (some .int)) (hE : s.heap.size + 0 ≤ b + G.2.2) (t_v0 : ok G 10 v0) (h : f_X11_findFitted_18 G v0 v1 Q v2 v3 S) : J p l e rm_X11_findFitted s m args below meth c b D cy 7 (zI b D cy below args s G Q) 0 0 G S 18 [(0, .ref (b + v0)), (1, .int v1), (2, .int v2), (3, .int v3)] [] := by
  obtain ⟨k, h⟩ := h
  exact j_X11_findFitted_18_n C hE t_v0 k v2 v3 S h
set_option maxHeartbeats 4000000 in
set_option maxRecDepth 100000 in
theorem j_X11_findFitted {p : Program} {l : Launch} {e : Env} {s : State} {m : MethodId} {args : Array Value} {below : List Frame} {meth : Method} {c : Code} {b : Nat} {D : va_G} {cy : Nat → ClassId} {G : Gm} {v0 : Nat} {S : St} {Q : Int32 → St → Prop} (C : CX p s m args meth c b D cy cX11_findFitted RX11 7 (some .int)) (hE : s.heap.size + 0 ≤ b + G.2.2) (t_v0 : ok G 10 v0) (h : f_X11_findFitted G v0 Q S) : J p l e rm_X11_findFitted s m args below meth c b D cy 7 (zI b D cy below args s G Q) 0 0 G S 0 [(0, .ref (b + v0))] [] := by
  unfold f_X11_findFitted at h
  refine jB C [(.aload_n 0, 1, 0)] 1 [(0, .ref (b + v0))] [.ref (b + v0)] (by decide +kernel) rfl rfl ?_
  obtain ⟨a1, e_a1, h⟩ := h
  refine jGetR C 4 (by decide +kernel : decode cX11_findFitted 1 = .ok (.getfield 16, 3)) rfl t_v0 kX11 4 (by decide) rfl rfl (by decide) wd_1158 e_a1 rfl (fun t_a1 => ?_)
  refine jB C [(.iconst 0, 1, 0)] 5 [(0, .ref (b + v0))] [.int 0, .ref (b + a1)] (by decide +kernel) rfl rfl ?_
  obtain ⟨y2, h⟩ := h
  refine jIald C 6 (by decide +kernel : decode cX11_findFitted 5 = .ok (.iaload, 1)) rfl t_a1 y2 ?_
  refine jTopI (fun x3 e_x3 => ?_)
  have h := h x3 e_x3
  refine jB C [(.istore_n 1, 1, 0), (.iconst (-1), 1, (-1)), (.istore_n 2, 1, 0), (.iconst 0, 1, 0), (.istore_n 3, 1, 0), (.aload_n 0, 1, 0)] 12 [(3, .int 0), (2, .int (-1)), (1, .int x3), (0, .ref (b + v0))] [.ref (b + v0)] (by decide +kernel) rfl rfl ?_
  obtain ⟨a4, e_a4, h⟩ := h
  refine jGetR C 15 (by decide +kernel : decode cX11_findFitted 12 = .ok (.getfield 129, 3)) rfl t_v0 kX11 48 (by decide) rfl rfl (by decide) wd_1202 e_a4 rfl (fun t_a4 => ?_)
  refine jB C [(.iconst 0, 1, 0), (.iconst (-1), 1, (-1))] 17 [(3, .int 0), (2, .int (-1)), (1, .int x3), (0, .ref (b + v0))] [.int (-1), .int 0, .ref (b + a4)] (by decide +kernel) rfl rfl ?_
  obtain ⟨y5, h⟩ := h
  refine jIast C 18 (by decide +kernel : decode cX11_findFitted 17 = .ok (.iastore, 1)) rfl hE t_a4 y5 ?_
  refine jTopS (fun S6 e_S6 => ?_)
  have h := h S6 e_S6
  refine jSub [3, 2, 1, 0] rfl ?_
  exact j_X11_findFitted_18 C hE t_v0 h
theorem ok_X11_findFitted {G : Gm} {v0 : Nat} {S : St} {Q : Int32 → St → Prop}  (t_v0 : ok G 10 v0) (h : f_X11_findFitted G v0 Q S) : MT yX11_findFitted cX11_findFitted 7 (some .int) rm_X11_findFitted 0 0 (fun b => [.ref (b + v0)]) G S (QI (fun r G1 S1 => G1 = G ∧ Q r S1)) := MT.ofJ (by decide +kernel) (fun b => [(0, .ref (b + v0))]) (fun b => rfl) (fun b => Nat.le_of_ble_eq_true rfl) (fun l b D cy p e s m below meth c C hE hn => j_X11_findFitted C hE t_v0 h)
theorem hd_X11_findFitted : yX11_findFitted.cls ≠ "java/lang/invoke/MethodHandle" ∧ yX11_findFitted.cls ≠ "java/lang/invoke/VarHandle" ∧ (parseMethodDescriptor yX11_findFitted.desc).map (fun d => d.parameters.length) = some 0 := by decide +kernel
abbrev rm_X11_layFitted : Room := { frames := 7, cells := 0, slots := 0, locals := 165 }
set_option maxHeartbeats 4000000 in
set_option maxRecDepth 100000 in
theorem j_X11_layFitted_61 {p : Program} {l : Launch} {e : Env} {s : State} {m : MethodId} {args : Array Value} {below : List Frame} {meth : Method} {c : Code} {b : Nat} {D : va_G} {cy : Nat → ClassId} {G : Gm} {k2 : Int32 → St → Prop} {k14 : Int32 → St → Prop} {v0 : Nat} {v1 : Int32} {v2 : Int32} {u0 : Int32} {u1 : Int32} {u2 : Nat} {S : St} {Q : St → Prop} (C : CX p s m args meth c b D cy cX11_layFitted RX11 3 none) (hE : s.heap.size + 0 ≤ b + G.2.2) (t_v0 : ok G 10 v0) (t_u2 : ok G 13 u2) (hk2 : ∀ v1' S, k2 v1' S → J p l e rm_X11_layFitted s m args below meth c b D cy 3 (zV b D cy below args s G Q) 0 0 G S 2 [(0, .ref (b + v0)), (1, .int (v1'))] []) (hk14 : ∀ v2' S, k14 v2' S → J p l e rm_X11_layFitted s m args below meth c b D cy 3 (zV b D cy below args s G Q) 0 0 G S 14 [(0, .ref (b + v0)), (1, .int v1), (2, .int (v2'))] []) (h : f_X11_layFitted_61 G k2 k14 v0 v1 v2 u0 u1 u2 Q S) : J p l e rm_X11_layFitted s m args below meth c b D cy 3 (zV b D cy below args s G Q) 0 0 G S 61 [(0, .ref (b + v0)), (1, .int v1), (2, .int v2)] [.int u0, .int u1, .ref (b + u2)] := by
  unfold f_X11_layFitted_61 at h
  obtain ⟨y1, z3, h⟩ := h
  refine jZast C 62 (by decide +kernel : decode cX11_layFitted 61 = .ok (.bastore, 1)) rfl hE t_u2 y1 z3 ?_
  refine jTopS (fun S2 e_S2 => ?_)
  have h := h S2 e_S2
  refine jB C [(.iinc 2 1, 3, 1)] 65 [(2, .int (v2 + 1)), (0, .ref (b + v0)), (1, .int v1)] [] (by decide +kernel) rfl rfl ?_
  refine jGoto C 14 (by decide +kernel : decode cX11_layFitted 65 = .ok (.goto (-51), 3)) rfl ?_
  refine jSub [1, 2, 0] rfl ?_
  exact hk14 (v2 + 1) S2 h
set_option maxHeartbeats 4000000 in
set_option maxRecDepth 100000 in
theorem j_X11_layFitted_14_n {p : Program} {l : Launch} {e : Env} {s : State} {m : MethodId} {args : Array Value} {below : List Frame} {meth : Method} {c : Code} {b : Nat} {D : va_G} {cy : Nat → ClassId} {G : Gm} {k2 : Int32 → St → Prop} {v0 : Nat} {v1 : Int32} {Q : St → Prop} (C : CX p s m args meth c b D cy cX11_layFitted RX11 3 none) (hE : s.heap.size + 0 ≤ b + G.2.2) (t_v0 : ok G 10 v0) (hk2 : ∀ v1' S, k2 v1' S → J p l e rm_X11_layFitted s m args below meth c b D cy 3 (zV b D cy below args s G Q) 0 0 G S 2 [(0, .ref (b + v0)), (1, .int (v1'))] []) : ∀ k (v2 : Int32) S, f_X11_layFitted_14_n G k2 v0 v1 Q k v2 S → J p l e rm_X11_layFitted s m args below meth c b D cy 3 (zV b D cy below args s G Q) 0 0 G S 14 [(0, .ref (b + v0)), (1, .int v1), (2, .int v2)] [] := by
  intro k
  induction k with
  | zero => intro v2 S h; exact h.elim
  | succ k ih =>
    intro v2 S h
    unfold f_X11_layFitted_14_n at h
    refine jB C [(.iload_n 2, 1, 0), (.aload_n 0, 1, 0)] 16 [(0, .ref (b + v0)), (1, .int v1), (2, .int v2)] [.ref (b + v0), .int v2] (by decide +kernel) rfl rfl ?_
    obtain ⟨a1, e_a1, h⟩ := h
    refine jGetR C 19 (by decide +kernel : decode cX11_layFitted 16 = .ok (.getfield 16, 3)) rfl t_v0 kX11 4 (by decide) rfl rfl (by decide) wd_1158 e_a1 rfl (fun t_a1 => ?_)
    refine jB C [(.iconst 0, 1, 0)] 20 [(0, .ref (b + v0)), (1, .int v1), (2, .int v2)] [.int 0, .ref (b + a1), .int v2] (by decide +kernel) rfl rfl ?_
    obtain ⟨y2, h⟩ := h
    refine jIald C 21 (by decide +kernel : decode cX11_layFitted 20 = .ok (.iaload, 1)) rfl t_a1 y2 ?_
    refine jIcmp_ge C 24 68 (by decide +kernel : decode cX11_layFitted 21 = .ok (.if_icmp .ge 47, 3)) rfl rfl (fun c3 => ?_) (fun c3 => ?_)
    · have h := it1 h c3
      refine jB C [(.iinc 1 1, 3, 1)] 71 [(1, .int (v1 + 1)), (0, .ref (b + v0)), (2, .int v2)] [] (by decide +kernel) rfl rfl ?_
      refine jGoto C 2 (by decide +kernel : decode cX11_layFitted 71 = .ok (.goto (-69), 3)) rfl ?_
      refine jSub [1, 0] rfl ?_
      exact hk2 (v1 + 1) S h
    · have h := it2 h c3
      refine jB C [(.aload_n 0, 1, 0)] 25 [(0, .ref (b + v0)), (1, .int v1), (2, .int v2)] [.ref (b + v0)] (by decide +kernel) rfl rfl ?_
      obtain ⟨a4, e_a4, h⟩ := h
      refine jGetR C 28 (by decide +kernel : decode cX11_layFitted 25 = .ok (.getfield 126, 3)) rfl t_v0 kX11 47 (by decide) rfl rfl (by decide) wd_1201 e_a4 rfl (fun t_a4 => ?_)
      refine jB C [(.bipush 6, 2, 6), (.iload_n 1, 1, 0), (.imul, 1, 0), (.iload_n 2, 1, 0), (.iadd, 1, 0), (.aload_n 0, 1, 0), (.iload_n 1, 1, 0), (.aload_n 0, 1, 0), (.iload_n 2, 1, 0)] 38 [(0, .ref (b + v0)), (1, .int v1), (2, .int v2)] [.int v2, .ref (b + v0), .int v1, .ref (b + v0), .int ((6 * v1) + v2), .ref (b + a4)] (by decide +kernel) rfl rfl ?_
      refine jcV_I C 41 (rest := [.int v1, .ref (b + v0), .int ((6 * v1) + v2), .ref (b + a4)]) (ok_X11_sightOf t_v0 h) (by decide +kernel : decode cX11_layFitted 38 = .ok (.invokevirtual 215, 3)) rfl wd_1386 wd_1388 wp_105 wd_12 wd_1389 ⟨rfl, rfl⟩ hd_X11_sightOf ⟨Nat.le_of_ble_eq_true rfl, Nat.le_of_ble_eq_true rfl⟩ t_v0 kX11 (by decide) rfl rfl rfl (Nat.le_of_ble_eq_true rfl) ⟨Nat.zero_le _, Nat.zero_le _⟩ (fun r6 S5 h => ?_)
      refine jcV_I C 44 (rest := [.int ((6 * v1) + v2), .ref (b + a4)]) (ok_X11_doesOf t_v0 h) (by decide +kernel : decode cX11_layFitted 41 = .ok (.invokevirtual 218, 3)) rfl wd_1394 wd_1396 wp_107 wd_12 wd_1397 ⟨rfl, rfl⟩ hd_X11_doesOf ⟨Nat.le_of_ble_eq_true rfl, Nat.le_of_ble_eq_true rfl⟩ t_v0 kX11 (by decide) rfl rfl rfl (Nat.le_of_ble_eq_true rfl) ⟨Nat.zero_le _, Nat.zero_le _⟩ (fun r8 S7 h => ?_)
      refine jB C [(.aload_n 0, 1, 0)] 45 [(0, .ref (b + v0)), (1, .int v1), (2, .int v2)] [.ref (b + v0), .int r8, .int ((6 * v1) + v2), .ref (b + a4)] (by decide +kernel) rfl rfl ?_
      obtain ⟨a9, e_a9, h⟩ := h
      refine jGetR C 48 (by decide +kernel : decode cX11_layFitted 45 = .ok (.getfield 16, 3)) rfl t_v0 kX11 4 (by decide) rfl rfl (by decide) wd_1158 e_a9 rfl (fun t_a9 => ?_)
      refine jB C [(.bipush 62, 2, 62), (.iload_n 1, 1, 0), (.iadd, 1, 0)] 52 [(0, .ref (b + v0)), (1, .int v1), (2, .int v2)] [.int (62 + v1), .ref (b + a9), .int r8, .int ((6 * v1) + v2), .ref (b + a4)] (by decide +kernel) rfl rfl ?_
      obtain ⟨y10, h⟩ := h
      refine jIald C 53 (by decide +kernel : decode cX11_layFitted 52 = .ok (.iaload, 1)) rfl t_a9 y10 ?_
      refine jIcmp_ne C 56 60 (by decide +kernel : decode cX11_layFitted 53 = .ok (.if_icmp .ne 7, 3)) rfl rfl (fun c11 => ?_) (fun c11 => ?_)
      · have h := it2 h c11
        refine jB C [(.iconst 0, 1, 0)] 61 [(0, .ref (b + v0)), (1, .int v1), (2, .int v2)] [.int 0, .int ((6 * v1) + v2), .ref (b + a4)] (by decide +kernel) rfl rfl ?_
        refine jSub [0, 1, 2] rfl ?_
        exact j_X11_layFitted_61 C hE t_v0 t_a4 hk2 ih h
      · have h := it1 h c11
        refine jB C [(.iconst 1, 1, 1)] 57 [(0, .ref (b + v0)), (1, .int v1), (2, .int v2)] [.int 1, .int ((6 * v1) + v2), .ref (b + a4)] (by decide +kernel) rfl rfl ?_
        refine jGoto C 61 (by decide +kernel : decode cX11_layFitted 57 = .ok (.goto 4, 3)) rfl ?_
        refine jSub [0, 1, 2] rfl ?_
        exact j_X11_layFitted_61 C hE t_v0 t_a4 hk2 ih h
theorem j_X11_layFitted_14 {p : Program} {l : Launch} {e : Env} {s : State} {m : MethodId} {args : Array Value} {below : List Frame} {meth : Method} {c : Code} {b : Nat} {D : va_G} {cy : Nat → ClassId} {G : Gm} {k2 : Int32 → St → Prop} {v0 : Nat} {v1 : Int32} {v2 : Int32} {S : St} {Q : St → Prop} (C : CX p s m args meth c b D cy cX11_layFitted RX11 3 none) (hE : s.heap.size + 0 ≤ b + G.2.2) (t_v0 : ok G 10 v0) (hk2 : ∀ v1' S, k2 v1' S → J p l e rm_X11_layFitted s m args below meth c b D cy 3 (zV b D cy below args s G Q) 0 0 G S 2 [(0, .ref (b + v0)), (1, .int (v1'))] []) (h : f_X11_layFitted_14 G k2 v0 v1 Q v2 S) : J p l e rm_X11_layFitted s m args below meth c b D cy 3 (zV b D cy below args s G Q) 0 0 G S 14 [(0, .ref (b + v0)), (1, .int v1), (2, .int v2)] [] := by
  obtain ⟨k, h⟩ := h
  exact j_X11_layFitted_14_n C hE t_v0 hk2 k v2 S h
set_option maxHeartbeats 4000000 in
set_option maxRecDepth 100000 in
theorem j_X11_layFitted_2_n {p : Program} {l : Launch} {e : Env} {s : State} {m : MethodId} {args : Array Value} {below : List Frame} {meth : Method} {c : Code} {b : Nat} {D : va_G} {cy : Nat → ClassId} {G : Gm} {v0 : Nat} {Q : St → Prop} (C : CX p s m args meth c b D cy cX11_layFitted RX11 3 none) (hE : s.heap.size + 0 ≤ b + G.2.2) (t_v0 : ok G 10 v0) : ∀ k (v1 : Int32) S, f_X11_layFitted_2_n G v0 Q k v1 S → J p l e rm_X11_layFitted s m args below meth c b D cy 3 (zV b D cy below args s G Q) 0 0 G S 2 [(0, .ref (b + v0)), (1, .int v1)] [] := by
  intro k
  induction k with
  | zero => intro v1 S h; exact h.elim
  | succ k ih =>
    intro v1 S h
    unfold f_X11_layFitted_2_n at h
    refine jB C [(.iload_n 1, 1, 0), (.aload_n 0, 1, 0)] 4 [(0, .ref (b + v0)), (1, .int v1)] [.ref (b + v0), .int v1] (by decide +kernel) rfl rfl ?_
    obtain ⟨a1, e_a1, h⟩ := h
    refine jGetR C 7 (by decide +kernel : decode cX11_layFitted 4 = .ok (.getfield 16, 3)) rfl t_v0 kX11 4 (by decide) rfl rfl (by decide) wd_1158 e_a1 rfl (fun t_a1 => ?_)
    refine jB C [(.iconst 0, 1, 0)] 8 [(0, .ref (b + v0)), (1, .int v1)] [.int 0, .ref (b + a1), .int v1] (by decide +kernel) rfl rfl ?_
    obtain ⟨y2, h⟩ := h
    refine jIald C 9 (by decide +kernel : decode cX11_layFitted 8 = .ok (.iaload, 1)) rfl t_a1 y2 ?_
    refine jIcmp_ge C 12 74 (by decide +kernel : decode cX11_layFitted 9 = .ok (.if_icmp .ge 65, 3)) rfl rfl (fun c3 => ?_) (fun c3 => ?_)
    · have h := it1 h c3
      exact jRetV C (by decide +kernel : decode cX11_layFitted 74 = .ok (.return_, 1)) (Nat.le_refl _) (Nat.le_refl _) ⟨rfl, h⟩
    · have h := it2 h c3
      refine jB C [(.iconst 0, 1, 0), (.istore_n 2, 1, 0)] 14 [(2, .int 0), (0, .ref (b + v0)), (1, .int v1)] [] (by decide +kernel) rfl rfl ?_
      refine jSub [1, 2, 0] rfl ?_
      exact j_X11_layFitted_14 C hE t_v0 ih h
theorem j_X11_layFitted_2 {p : Program} {l : Launch} {e : Env} {s : State} {m : MethodId} {args : Array Value} {below : List Frame} {meth : Method} {c : Code} {b : Nat} {D : va_G} {cy : Nat → ClassId} {G : Gm} {v0 : Nat} {v1 : Int32} {S : St} {Q : St → Prop} (C : CX p s m args meth c b D cy cX11_layFitted RX11 3 none) (hE : s.heap.size + 0 ≤ b + G.2.2) (t_v0 : ok G 10 v0) (h : f_X11_layFitted_2 G v0 Q v1 S) : J p l e rm_X11_layFitted s m args below meth c b D cy 3 (zV b D cy below args s G Q) 0 0 G S 2 [(0, .ref (b + v0)), (1, .int v1)] [] := by
  obtain ⟨k, h⟩ := h
  exact j_X11_layFitted_2_n C hE t_v0 k v1 S h
set_option maxHeartbeats 4000000 in
set_option maxRecDepth 100000 in
theorem j_X11_layFitted {p : Program} {l : Launch} {e : Env} {s : State} {m : MethodId} {args : Array Value} {below : List Frame} {meth : Method} {c : Code} {b : Nat} {D : va_G} {cy : Nat → ClassId} {G : Gm} {v0 : Nat} {S : St} {Q : St → Prop} (C : CX p s m args meth c b D cy cX11_layFitted RX11 3 none) (hE : s.heap.size + 0 ≤ b + G.2.2) (t_v0 : ok G 10 v0) (h : f_X11_layFitted G v0 Q S) : J p l e rm_X11_layFitted s m args below meth c b D cy 3 (zV b D cy below args s G Q) 0 0 G S 0 [(0, .ref (b + v0))] [] := by
  unfold f_X11_layFitted at h
  refine jB C [(.iconst 0, 1, 0), (.istore_n 1, 1, 0)] 2 [(1, .int 0), (0, .ref (b + v0))] [] (by decide +kernel) rfl rfl ?_
  refine jSub [1, 0] rfl ?_
  exact j_X11_layFitted_2 C hE t_v0 h
theorem ok_X11_layFitted {G : Gm} {v0 : Nat} {S : St} {Q : St → Prop}  (t_v0 : ok G 10 v0) (h : f_X11_layFitted G v0 Q S) : MT yX11_layFitted cX11_layFitted 3 none rm_X11_layFitted 0 0 (fun b => [.ref (b + v0)]) G S (QV (fun G1 S1 => G1 = G ∧ Q S1)) := MT.ofJ (by decide +kernel) (fun b => [(0, .ref (b + v0))]) (fun b => rfl) (fun b => Nat.le_of_ble_eq_true rfl) (fun l b D cy p e s m below meth c C hE hn => j_X11_layFitted C hE t_v0 h)
theorem hd_X11_layFitted : yX11_layFitted.cls ≠ "java/lang/invoke/MethodHandle" ∧ yX11_layFitted.cls ≠ "java/lang/invoke/VarHandle" ∧ (parseMethodDescriptor yX11_layFitted.desc).map (fun d => d.parameters.length) = some 0 := by decide +kernel
abbrev rm_X11_fitted : Room := { frames := 8, cells := 0, slots := 0, locals := 187 }
set_option maxHeartbeats 4000000 in
set_option maxRecDepth 100000 in
theorem j_X11_fitted {p : Program} {l : Launch} {e : Env} {s : State} {m : MethodId} {args : Array Value} {below : List Frame} {meth : Method} {c : Code} {b : Nat} {D : va_G} {cy : Nat → ClassId} {G : Gm} {v0 : Nat} {v1 : Int32} {S : St} {Q : Int32 → St → Prop} (C : CX p s m args meth c b D cy cX11_fitted RX11 3 (some .int)) (hE : s.heap.size + 0 ≤ b + G.2.2) (t_v0 : ok G 10 v0) (h : f_X11_fitted G v0 v1 Q S) : J p l e rm_X11_fitted s m args below meth c b D cy 3 (zI b D cy below args s G Q) 0 0 G S 0 [(0, .ref (b + v0)), (1, .int v1)] [] := by
  unfold f_X11_fitted at h
  refine jB C [(.aload_n 0, 1, 0), (.iconst 0, 1, 0)] 2 [(0, .ref (b + v0)), (1, .int v1)] [.int 0, .ref (b + v0)] (by decide +kernel) rfl rfl ?_
  refine jPutI C 5 (by decide +kernel : decode cX11_fitted 2 = .ok (.putfield 165, 3)) rfl hE t_v0 kX11 0 (by decide) rfl rfl (by decide) rfl wd_1154 rfl rfl rfl ?_
  refine jTopS (fun S1 e_S1 => ?_)
  have h := h S1 e_S1
  refine jB C [(.iload_n 1, 1, 0), (.i2l, 1, 0), (.lconst 0, 1, 0), (.aload_n 0, 1, 0)] 9 [(0, .ref (b + v0)), (1, .int v1)] [.ref (b + v0), .long 0, .long v1.toInt64] (by decide +kernel) rfl rfl ?_
  obtain ⟨a2, e_a2, h⟩ := h
  refine jGetR C 12 (by decide +kernel : decode cX11_fitted 9 = .ok (.getfield 16, 3)) rfl t_v0 kX11 4 (by decide) rfl rfl (by decide) wd_1158 e_a2 rfl (fun t_a2 => ?_)
  refine jB C [(.iconst 0, 1, 0)] 13 [(0, .ref (b + v0)), (1, .int v1)] [.int 0, .ref (b + a2), .long 0, .long v1.toInt64] (by decide +kernel) rfl rfl ?_
  obtain ⟨y3, h⟩ := h
  refine jIald C 14 (by decide +kernel : decode cX11_fitted 13 = .ok (.iaload, 1)) rfl t_a2 y3 ?_
  refine jB C [(.i2l, 1, 0)] 15 [(0, .ref (b + v0)), (1, .int v1)] [.long ((S1.1 a2 (0 : Int32).toNatClampNeg).toInt64), .long 0, .long v1.toInt64] (by decide +kernel) rfl rfl ?_
  refine jcS_I C 18 (rest := []) (ok_X11_in h) (by decide +kernel : decode cX11_fitted 15 = .ok (.invokestatic 185, 3)) rfl wd_1352 wd_1353 wd_12 wd_1354 ⟨rfl, rfl⟩ hd_X11_in ⟨Nat.le_of_ble_eq_true rfl, Nat.le_of_ble_eq_true rfl⟩ rfl rfl (Nat.le_of_ble_eq_true rfl) ⟨Nat.zero_le _, Nat.zero_le _⟩ (fun r5 S4 h => ?_)
  refine jIf_ne C 21 23 (by decide +kernel : decode cX11_fitted 18 = .ok (.ifCond .ne 5, 3)) rfl rfl (fun c6 => ?_) (fun c6 => ?_)
  · have h := it2 h c6
    refine jB C [(.aload_n 0, 1, 0)] 24 [(0, .ref (b + v0)), (1, .int v1)] [.ref (b + v0)] (by decide +kernel) rfl rfl ?_
    refine jcV_V C 27 (rest := []) (ok_X11_layFitted t_v0 h) (by decide +kernel : decode cX11_fitted 24 = .ok (.invokevirtual 511, 3)) rfl wd_1748 wd_1750 wp_158 wd_12 wd_1751 ⟨rfl, rfl⟩ hd_X11_layFitted ⟨Nat.le_of_ble_eq_true rfl, Nat.le_of_ble_eq_true rfl⟩ t_v0 kX11 (by decide) rfl rfl rfl (Nat.le_of_ble_eq_true rfl) ⟨Nat.zero_le _, Nat.zero_le _⟩ (fun S7 h => ?_)
    refine jB C [(.aload_n 0, 1, 0)] 28 [(0, .ref (b + v0)), (1, .int v1)] [.ref (b + v0)] (by decide +kernel) rfl rfl ?_
    refine jcV_I C 31 (rest := []) (ok_X11_findFitted t_v0 h) (by decide +kernel : decode cX11_fitted 28 = .ok (.invokevirtual 514, 3)) rfl wd_1752 wd_1754 wp_159 wd_12 wd_1755 ⟨rfl, rfl⟩ hd_X11_findFitted ⟨Nat.le_of_ble_eq_true rfl, Nat.le_of_ble_eq_true rfl⟩ t_v0 kX11 (by decide) rfl rfl rfl (Nat.le_of_ble_eq_true rfl) ⟨Nat.zero_le _, Nat.zero_le _⟩ (fun r9 S8 h => ?_)
    refine jB C [(.istore_n 2, 1, 0), (.iload_n 1, 1, 0)] 33 [(2, .int r9), (0, .ref (b + v0)), (1, .int v1)] [.int v1] (by decide +kernel) rfl rfl ?_
    refine jIf_ne C 36 40 (by decide +kernel : decode cX11_fitted 33 = .ok (.ifCond .ne 7, 3)) rfl rfl (fun c10 => ?_) (fun c10 => ?_)
    · have h := it2 h c10
      refine jB C [(.aload_n 0, 1, 0)] 41 [(2, .int r9), (0, .ref (b + v0)), (1, .int v1)] [.ref (b + v0)] (by decide +kernel) rfl rfl ?_
      obtain ⟨a11, e_a11, h⟩ := h
      refine jGetR C 44 (by decide +kernel : decode cX11_fitted 41 = .ok (.getfield 132, 3)) rfl t_v0 kX11 49 (by decide) rfl rfl (by decide) wd_1203 e_a11 rfl (fun t_a11 => ?_)
      refine jB C [(.iload_n 1, 1, 0), (.iconst 1, 1, 1), (.isub, 1, 0)] 47 [(2, .int r9), (0, .ref (b + v0)), (1, .int v1)] [.int (v1 - 1), .ref (b + a11)] (by decide +kernel) rfl rfl ?_
      obtain ⟨y12, h⟩ := h
      refine jIald C 48 (by decide +kernel : decode cX11_fitted 47 = .ok (.iaload, 1)) rfl t_a11 y12 ?_
      exact jRetI C (by decide +kernel : decode cX11_fitted 48 = .ok (.ireturn, 1)) (Nat.le_refl _) (Nat.le_refl _) ⟨rfl, h⟩
    · have h := it1 h c10
      refine jB C [(.iload_n 2, 1, 0)] 37 [(2, .int r9), (0, .ref (b + v0)), (1, .int v1)] [.int r9] (by decide +kernel) rfl rfl ?_
      refine jGoto C 48 (by decide +kernel : decode cX11_fitted 37 = .ok (.goto 11, 3)) rfl ?_
      exact jRetI C (by decide +kernel : decode cX11_fitted 48 = .ok (.ireturn, 1)) (Nat.le_refl _) (Nat.le_refl _) ⟨rfl, h⟩
  · have h := it1 h c6
    refine jB C [(.iconst (-1), 1, (-1))] 22 [(0, .ref (b + v0)), (1, .int v1)] [.int (-1)] (by decide +kernel) rfl rfl ?_
    exact jRetI C (by decide +kernel : decode cX11_fitted 22 = .ok (.ireturn, 1)) (Nat.le_refl _) (Nat.le_refl _) ⟨rfl, h⟩
theorem ok_X11_fitted {G : Gm} {v0 : Nat} {v1 : Int32} {S : St} {Q : Int32 → St → Prop}  (t_v0 : ok G 10 v0) (h : f_X11_fitted G v0 v1 Q S) : MT yX11_fitted cX11_fitted 3 (some .int) rm_X11_fitted 0 0 (fun b => [.ref (b + v0), .int v1]) G S (QI (fun r G1 S1 => G1 = G ∧ Q r S1)) := MT.ofJ (by decide +kernel) (fun b => [(0, .ref (b + v0)), (1, .int v1)]) (fun b => rfl) (fun b => Nat.le_of_ble_eq_true rfl) (fun l b D cy p e s m below meth c C hE hn => j_X11_fitted C hE t_v0 h)
theorem hd_X11_fitted : yX11_fitted.cls ≠ "java/lang/invoke/MethodHandle" ∧ yX11_fitted.cls ≠ "java/lang/invoke/VarHandle" ∧ (parseMethodDescriptor yX11_fitted.desc).map (fun d => d.parameters.length) = some 1 := by decide +kernel
abbrev rm_X11_isLaw : Room := { frames := 1, cells := 0, slots := 0, locals := 25 }
set_option maxHeartbeats 4000000 in
set_option maxRecDepth 100000 in
theorem j_X11_isLaw {p : Program} {l : Launch} {e : Env} {s : State} {m : MethodId} {args : Array Value} {below : List Frame} {meth : Method} {c : Code} {b : Nat} {D : va_G} {cy : Nat → ClassId} {G : Gm} {v0 : Nat} {v1 : Int32} {S : St} {Q : Int32 → St → Prop} (C : CX p s m args meth c b D cy cX11_isLaw RX11 2 (some .boolean)) (hE : s.heap.size + 0 ≤ b + G.2.2) (t_v0 : ok G 10 v0) (h : f_X11_isLaw G v0 v1 Q S) : J p l e rm_X11_isLaw s m args below meth c b D cy 2 (zI b D cy below args s G Q) 0 0 G S 0 [(0, .ref (b + v0)), (1, .int v1)] [] := by
  unfold f_X11_isLaw at h
  refine jB C [(.iload_n 1, 1, 0), (.iconst (-1), 1, (-1))] 2 [(0, .ref (b + v0)), (1, .int v1)] [.int (-1), .int v1] (by decide +kernel) rfl rfl ?_
  refine jIcmp_eq C 5 23 (by decide +kernel : decode cX11_isLaw 2 = .ok (.if_icmp .eq 21, 3)) rfl rfl (fun c1 => ?_) (fun c1 => ?_)
  · have h := it1 h c1
    refine jB C [(.iconst 1, 1, 1)] 24 [(0, .ref (b + v0)), (1, .int v1)] [.int 1] (by decide +kernel) rfl rfl ?_
    refine jGoto C 28 (by decide +kernel : decode cX11_isLaw 24 = .ok (.goto 4, 3)) rfl ?_
    exact jRetZ C (by decide +kernel : decode cX11_isLaw 28 = .ok (.ireturn, 1)) (Nat.le_refl _) (Nat.le_refl _) (by decide) ⟨rfl, h⟩
  · have h := it2 h c1
    refine jB C [(.iload_n 1, 1, 0), (.i2l, 1, 0), (.lconst 0, 1, 0), (.aload_n 0, 1, 0)] 9 [(0, .ref (b + v0)), (1, .int v1)] [.ref (b + v0), .long 0, .long v1.toInt64] (by decide +kernel) rfl rfl ?_
    obtain ⟨a2, e_a2, h⟩ := h
    refine jGetR C 12 (by decide +kernel : decode cX11_isLaw 9 = .ok (.getfield 16, 3)) rfl t_v0 kX11 4 (by decide) rfl rfl (by decide) wd_1158 e_a2 rfl (fun t_a2 => ?_)
    refine jB C [(.iconst 2, 1, 2)] 13 [(0, .ref (b + v0)), (1, .int v1)] [.int 2, .ref (b + a2), .long 0, .long v1.toInt64] (by decide +kernel) rfl rfl ?_
    obtain ⟨y3, h⟩ := h
    refine jIald C 14 (by decide +kernel : decode cX11_isLaw 13 = .ok (.iaload, 1)) rfl t_a2 y3 ?_
    refine jB C [(.i2l, 1, 0), (.lconst 1, 1, 0), (.lsub, 1, 0)] 17 [(0, .ref (b + v0)), (1, .int v1)] [.long (((S.1 a2 (2 : Int32).toNatClampNeg).toInt64) - 1), .long 0, .long v1.toInt64] (by decide +kernel) rfl rfl ?_
    refine jcS_I C 20 (rest := []) (ok_X11_in h) (by decide +kernel : decode cX11_isLaw 17 = .ok (.invokestatic 185, 3)) rfl wd_1352 wd_1353 wd_12 wd_1354 ⟨rfl, rfl⟩ hd_X11_in ⟨Nat.le_of_ble_eq_true rfl, Nat.le_of_ble_eq_true rfl⟩ rfl rfl (Nat.le_of_ble_eq_true rfl) ⟨Nat.zero_le _, Nat.zero_le _⟩ (fun r5 S4 h => ?_)
    refine jIf_eq C 23 27 (by decide +kernel : decode cX11_isLaw 20 = .ok (.ifCond .eq 7, 3)) rfl rfl (fun c6 => ?_) (fun c6 => ?_)
    · have h := it1 h c6
      refine jB C [(.iconst 0, 1, 0)] 28 [(0, .ref (b + v0)), (1, .int v1)] [.int 0] (by decide +kernel) rfl rfl ?_
      exact jRetZ C (by decide +kernel : decode cX11_isLaw 28 = .ok (.ireturn, 1)) (Nat.le_refl _) (Nat.le_refl _) (by decide) ⟨rfl, h⟩
    · have h := it2 h c6
      refine jB C [(.iconst 1, 1, 1)] 24 [(0, .ref (b + v0)), (1, .int v1)] [.int 1] (by decide +kernel) rfl rfl ?_
      refine jGoto C 28 (by decide +kernel : decode cX11_isLaw 24 = .ok (.goto 4, 3)) rfl ?_
      exact jRetZ C (by decide +kernel : decode cX11_isLaw 28 = .ok (.ireturn, 1)) (Nat.le_refl _) (Nat.le_refl _) (by decide) ⟨rfl, h⟩
theorem ok_X11_isLaw {G : Gm} {v0 : Nat} {v1 : Int32} {S : St} {Q : Int32 → St → Prop}  (t_v0 : ok G 10 v0) (h : f_X11_isLaw G v0 v1 Q S) : MT yX11_isLaw cX11_isLaw 2 (some .boolean) rm_X11_isLaw 0 0 (fun b => [.ref (b + v0), .int v1]) G S (QI (fun r G1 S1 => G1 = G ∧ Q r S1)) := MT.ofJ (by decide +kernel) (fun b => [(0, .ref (b + v0)), (1, .int v1)]) (fun b => rfl) (fun b => Nat.le_of_ble_eq_true rfl) (fun l b D cy p e s m below meth c C hE hn => j_X11_isLaw C hE t_v0 h)
theorem hd_X11_isLaw : yX11_isLaw.cls ≠ "java/lang/invoke/MethodHandle" ∧ yX11_isLaw.cls ≠ "java/lang/invoke/VarHandle" ∧ (parseMethodDescriptor yX11_isLaw.desc).map (fun d => d.parameters.length) = some 1 := by decide +kernel
abbrev rm_X11_force : Room := { frames := 2, cells := 0, slots := 0, locals := 46 }
set_option maxHeartbeats 4000000 in
set_option maxRecDepth 100000 in
theorem j_X11_force {p : Program} {l : Launch} {e : Env} {s : State} {m : MethodId} {args : Array Value} {below : List Frame} {meth : Method} {c : Code} {b : Nat} {D : va_G} {cy : Nat → ClassId} {G : Gm} {v0 : Nat} {v1 : Int32} {S : St} {Q : Int32 → St → Prop} (C : CX p s m args meth c b D cy cX11_force RX11 2 (some .int)) (hE : s.heap.size + 0 ≤ b + G.2.2) (t_v0 : ok G 10 v0) (h : f_X11_force G v0 v1 Q S) : J p l e rm_X11_force s m args below meth c b D cy 2 (zI b D cy below args s G Q) 0 0 G S 0 [(0, .ref (b + v0)), (1, .int v1)] [] := by
  unfold f_X11_force at h
  refine jB C [(.aload_n 0, 1, 0), (.iconst 0, 1, 0)] 2 [(0, .ref (b + v0)), (1, .int v1)] [.int 0, .ref (b + v0)] (by decide +kernel) rfl rfl ?_
  refine jPutI C 5 (by decide +kernel : decode cX11_force 2 = .ok (.putfield 165, 3)) rfl hE t_v0 kX11 0 (by decide) rfl rfl (by decide) rfl wd_1154 rfl rfl rfl ?_
  refine jTopS (fun S1 e_S1 => ?_)
  have h := h S1 e_S1
  refine jB C [(.aload_n 0, 1, 0), (.iload_n 1, 1, 0)] 7 [(0, .ref (b + v0)), (1, .int v1)] [.int v1, .ref (b + v0)] (by decide +kernel) rfl rfl ?_
  refine jcV_I C 10 (rest := []) (ok_X11_isLaw t_v0 h) (by decide +kernel : decode cX11_force 7 = .ok (.invokevirtual 416, 3)) rfl wd_1634 wd_1636 wp_142 wd_12 wd_1637 ⟨rfl, rfl⟩ hd_X11_isLaw ⟨Nat.le_of_ble_eq_true rfl, Nat.le_of_ble_eq_true rfl⟩ t_v0 kX11 (by decide) rfl rfl rfl (Nat.le_of_ble_eq_true rfl) ⟨Nat.zero_le _, Nat.zero_le _⟩ (fun r3 S2 h => ?_)
  refine jIf_eq C 13 22 (by decide +kernel : decode cX11_force 10 = .ok (.ifCond .eq 12, 3)) rfl rfl (fun c4 => ?_) (fun c4 => ?_)
  · have h := it1 h c4
    refine jB C [(.aload_n 0, 1, 0), (.bipush (-2), 2, (-2))] 25 [(0, .ref (b + v0)), (1, .int v1)] [.int (-2), .ref (b + v0)] (by decide +kernel) rfl rfl ?_
    refine jcV_I C 28 (rest := []) (ok_X11_tell t_v0 h) (by decide +kernel : decode cX11_force 25 = .ok (.invokevirtual 174, 3)) rfl wd_1340 wd_1342 wp_99 wd_12 wd_1343 ⟨rfl, rfl⟩ hd_X11_tell ⟨Nat.le_of_ble_eq_true rfl, Nat.le_of_ble_eq_true rfl⟩ t_v0 kX11 (by decide) rfl rfl rfl (Nat.le_of_ble_eq_true rfl) ⟨Nat.zero_le _, Nat.zero_le _⟩ (fun r6 S5 h => ?_)
    exact jRetI C (by decide +kernel : decode cX11_force 28 = .ok (.ireturn, 1)) (Nat.le_refl _) (Nat.le_refl _) ⟨rfl, h⟩
  · have h := it2 h c4
    refine jB C [(.aload_n 0, 1, 0), (.iconst 3, 1, 3), (.iload_n 1, 1, 0)] 16 [(0, .ref (b + v0)), (1, .int v1)] [.int v1, .int 3, .ref (b + v0)] (by decide +kernel) rfl rfl ?_
    refine jcV_I C 19 (rest := []) (ok_X11_change t_v0 h) (by decide +kernel : decode cX11_force 16 = .ok (.invokevirtual 242, 3)) rfl wd_1465 wd_1467 wp_117 wd_12 wd_1468 ⟨rfl, rfl⟩ hd_X11_change ⟨Nat.le_of_ble_eq_true rfl, Nat.le_of_ble_eq_true rfl⟩ t_v0 kX11 (by decide) rfl rfl rfl (Nat.le_of_ble_eq_true rfl) ⟨Nat.zero_le _, Nat.zero_le _⟩ (fun r8 S7 h => ?_)
    refine jGoto C 28 (by decide +kernel : decode cX11_force 19 = .ok (.goto 9, 3)) rfl ?_
    exact jRetI C (by decide +kernel : decode cX11_force 28 = .ok (.ireturn, 1)) (Nat.le_refl _) (Nat.le_refl _) ⟨rfl, h⟩
theorem ok_X11_force {G : Gm} {v0 : Nat} {v1 : Int32} {S : St} {Q : Int32 → St → Prop}  (t_v0 : ok G 10 v0) (h : f_X11_force G v0 v1 Q S) : MT yX11_force cX11_force 2 (some .int) rm_X11_force 0 0 (fun b => [.ref (b + v0), .int v1]) G S (QI (fun r G1 S1 => G1 = G ∧ Q r S1)) := MT.ofJ (by decide +kernel) (fun b => [(0, .ref (b + v0)), (1, .int v1)]) (fun b => rfl) (fun b => Nat.le_of_ble_eq_true rfl) (fun l b D cy p e s m below meth c C hE hn => j_X11_force C hE t_v0 h)
theorem hd_X11_force : yX11_force.cls ≠ "java/lang/invoke/MethodHandle" ∧ yX11_force.cls ≠ "java/lang/invoke/VarHandle" ∧ (parseMethodDescriptor yX11_force.desc).map (fun d => d.parameters.length) = some 1 := by decide +kernel
abbrev rm_X11_forget : Room := { frames := 0, cells := 0, slots := 0, locals := 0 }
set_option maxHeartbeats 4000000 in
set_option maxRecDepth 100000 in
theorem j_X11_forget {p : Program} {l : Launch} {e : Env} {s : State} {m : MethodId} {args : Array Value} {below : List Frame} {meth : Method} {c : Code} {b : Nat} {D : va_G} {cy : Nat → ClassId} {G : Gm} {v0 : Nat} {S : St} {Q : Int32 → St → Prop} (C : CX p s m args meth c b D cy cX11_forget RX11 2 (some .int)) (hE : s.heap.size + 0 ≤ b + G.2.2) (t_v0 : ok G 10 v0) (h : f_X11_forget G v0 Q S) : J p l e rm_X11_forget s m args below meth c b D cy 2 (zI b D cy below args s G Q) 0 0 G S 0 [(0, .ref (b + v0))] [] := by
  unfold f_X11_forget at h
  refine jB C [(.aload_n 0, 1, 0), (.iconst 0, 1, 0)] 2 [(0, .ref (b + v0))] [.int 0, .ref (b + v0)] (by decide +kernel) rfl rfl ?_
  refine jPutI C 5 (by decide +kernel : decode cX11_forget 2 = .ok (.putfield 165, 3)) rfl hE t_v0 kX11 0 (by decide) rfl rfl (by decide) rfl wd_1154 rfl rfl rfl ?_
  refine jTopS (fun S1 e_S1 => ?_)
  have h := h S1 e_S1
  refine jB C [(.aload_n 0, 1, 0)] 6 [(0, .ref (b + v0))] [.ref (b + v0)] (by decide +kernel) rfl rfl ?_
  obtain ⟨a2, e_a2, h⟩ := h
  refine jGetR C 9 (by decide +kernel : decode cX11_forget 6 = .ok (.getfield 16, 3)) rfl t_v0 kX11 4 (by decide) rfl rfl (by decide) wd_1158 e_a2 rfl (fun t_a2 => ?_)
  refine jB C [(.iconst 1, 1, 1)] 10 [(0, .ref (b + v0))] [.int 1, .ref (b + a2)] (by decide +kernel) rfl rfl ?_
  obtain ⟨y3, h⟩ := h
  refine jIald C 11 (by decide +kernel : decode cX11_forget 10 = .ok (.iaload, 1)) rfl t_a2 y3 ?_
  refine jTopI (fun x4 e_x4 => ?_)
  have h := h x4 e_x4
  refine jB C [(.istore_n 1, 1, 0), (.aload_n 0, 1, 0)] 13 [(1, .int x4), (0, .ref (b + v0))] [.ref (b + v0)] (by decide +kernel) rfl rfl ?_
  obtain ⟨a5, e_a5, h⟩ := h
  refine jGetR C 16 (by decide +kernel : decode cX11_forget 13 = .ok (.getfield 16, 3)) rfl t_v0 kX11 4 (by decide) rfl rfl (by decide) wd_1158 e_a5 rfl (fun t_a5 => ?_)
  refine jB C [(.iconst 1, 1, 1), (.iconst 0, 1, 0)] 18 [(1, .int x4), (0, .ref (b + v0))] [.int 0, .int 1, .ref (b + a5)] (by decide +kernel) rfl rfl ?_
  obtain ⟨y6, h⟩ := h
  refine jIast C 19 (by decide +kernel : decode cX11_forget 18 = .ok (.iastore, 1)) rfl hE t_a5 y6 ?_
  refine jTopS (fun S7 e_S7 => ?_)
  have h := h S7 e_S7
  refine jB C [(.iload_n 1, 1, 0)] 20 [(1, .int x4), (0, .ref (b + v0))] [.int x4] (by decide +kernel) rfl rfl ?_
  exact jRetI C (by decide +kernel : decode cX11_forget 20 = .ok (.ireturn, 1)) (Nat.le_refl _) (Nat.le_refl _) ⟨rfl, h⟩
theorem ok_X11_forget {G : Gm} {v0 : Nat} {S : St} {Q : Int32 → St → Prop}  (t_v0 : ok G 10 v0) (h : f_X11_forget G v0 Q S) : MT yX11_forget cX11_forget 2 (some .int) rm_X11_forget 0 0 (fun b => [.ref (b + v0)]) G S (QI (fun r G1 S1 => G1 = G ∧ Q r S1)) := MT.ofJ (by decide +kernel) (fun b => [(0, .ref (b + v0))]) (fun b => rfl) (fun b => Nat.le_of_ble_eq_true rfl) (fun l b D cy p e s m below meth c C hE hn => j_X11_forget C hE t_v0 h)
theorem hd_X11_forget : yX11_forget.cls ≠ "java/lang/invoke/MethodHandle" ∧ yX11_forget.cls ≠ "java/lang/invoke/VarHandle" ∧ (parseMethodDescriptor yX11_forget.desc).map (fun d => d.parameters.length) = some 0 := by decide +kernel
abbrev rm_X11_putBack : Room := { frames := 0, cells := 0, slots := 0, locals := 0 }
set_option maxHeartbeats 4000000 in
set_option maxRecDepth 100000 in
theorem j_X11_putBack_2_n {p : Program} {l : Launch} {e : Env} {s : State} {m : MethodId} {args : Array Value} {below : List Frame} {meth : Method} {c : Code} {b : Nat} {D : va_G} {cy : Nat → ClassId} {G : Gm} {v0 : Nat} {v1 : Int32} {Q : St → Prop} (C : CX p s m args meth c b D cy cX11_putBack RX11 3 none) (hE : s.heap.size + 0 ≤ b + G.2.2) (t_v0 : ok G 10 v0) : ∀ k (v2 : Int32) S, f_X11_putBack_2_n G v0 v1 Q k v2 S → J p l e rm_X11_putBack s m args below meth c b D cy 3 (zV b D cy below args s G Q) 0 0 G S 2 [(0, .ref (b + v0)), (1, .int v1), (2, .int v2)] [] := by
  intro k
  induction k with
  | zero => intro v2 S h; exact h.elim
  | succ k ih =>
    intro v2 S h
    unfold f_X11_putBack_2_n at h
    refine jB C [(.iload_n 2, 1, 0), (.bipush 58, 2, 58)] 5 [(0, .ref (b + v0)), (1, .int v1), (2, .int v2)] [.int 58, .int v2] (by decide +kernel) rfl rfl ?_
    refine jIcmp_ge C 8 33 (by decide +kernel : decode cX11_putBack 5 = .ok (.if_icmp .ge 28, 3)) rfl rfl (fun c1 => ?_) (fun c1 => ?_)
    · have h := it1 h c1
      exact jRetV C (by decide +kernel : decode cX11_putBack 33 = .ok (.return_, 1)) (Nat.le_refl _) (Nat.le_refl _) ⟨rfl, h⟩
    · have h := it2 h c1
      refine jB C [(.aload_n 0, 1, 0)] 9 [(0, .ref (b + v0)), (1, .int v1), (2, .int v2)] [.ref (b + v0)] (by decide +kernel) rfl rfl ?_
      obtain ⟨a2, e_a2, h⟩ := h
      refine jGetR C 12 (by decide +kernel : decode cX11_putBack 9 = .ok (.getfield 16, 3)) rfl t_v0 kX11 4 (by decide) rfl rfl (by decide) wd_1158 e_a2 rfl (fun t_a2 => ?_)
      refine jB C [(.iconst 4, 1, 4), (.iload_n 2, 1, 0), (.iadd, 1, 0), (.aload_n 0, 1, 0)] 16 [(0, .ref (b + v0)), (1, .int v1), (2, .int v2)] [.ref (b + v0), .int (4 + v2), .ref (b + a2)] (by decide +kernel) rfl rfl ?_
      obtain ⟨a3, e_a3, h⟩ := h
      refine jGetR C 19 (by decide +kernel : decode cX11_putBack 16 = .ok (.getfield 26, 3)) rfl t_v0 kX11 7 (by decide) rfl rfl (by decide) wd_1161 e_a3 rfl (fun t_a3 => ?_)
      refine jB C [(.bipush 58, 2, 58), (.iload_n 1, 1, 0), (.imul, 1, 0), (.iload_n 2, 1, 0), (.iadd, 1, 0)] 25 [(0, .ref (b + v0)), (1, .int v1), (2, .int v2)] [.int ((58 * v1) + v2), .ref (b + a3), .int (4 + v2), .ref (b + a2)] (by decide +kernel) rfl rfl ?_
      obtain ⟨y4, h⟩ := h
      refine jIald C 26 (by decide +kernel : decode cX11_putBack 25 = .ok (.iaload, 1)) rfl t_a3 y4 ?_
      obtain ⟨y5, h⟩ := h
      refine jIast C 27 (by decide +kernel : decode cX11_putBack 26 = .ok (.iastore, 1)) rfl hE t_a2 y5 ?_
      refine jTopS (fun S6 e_S6 => ?_)
      have h := h S6 e_S6
      refine jB C [(.iinc 2 1, 3, 1)] 30 [(2, .int (v2 + 1)), (0, .ref (b + v0)), (1, .int v1)] [] (by decide +kernel) rfl rfl ?_
      refine jGoto C 2 (by decide +kernel : decode cX11_putBack 30 = .ok (.goto (-28), 3)) rfl ?_
      refine jSub [1, 2, 0] rfl ?_
      exact ih (v2 + 1) S6 h
theorem j_X11_putBack_2 {p : Program} {l : Launch} {e : Env} {s : State} {m : MethodId} {args : Array Value} {below : List Frame} {meth : Method} {c : Code} {b : Nat} {D : va_G} {cy : Nat → ClassId} {G : Gm} {v0 : Nat} {v1 : Int32} {v2 : Int32} {S : St} {Q : St → Prop} (C : CX p s m args meth c b D cy cX11_putBack RX11 3 none) (hE : s.heap.size + 0 ≤ b + G.2.2) (t_v0 : ok G 10 v0) (h : f_X11_putBack_2 G v0 v1 Q v2 S) : J p l e rm_X11_putBack s m args below meth c b D cy 3 (zV b D cy below args s G Q) 0 0 G S 2 [(0, .ref (b + v0)), (1, .int v1), (2, .int v2)] [] := by
  obtain ⟨k, h⟩ := h
  exact j_X11_putBack_2_n C hE t_v0 k v2 S h
set_option maxHeartbeats 4000000 in
set_option maxRecDepth 100000 in
theorem j_X11_putBack {p : Program} {l : Launch} {e : Env} {s : State} {m : MethodId} {args : Array Value} {below : List Frame} {meth : Method} {c : Code} {b : Nat} {D : va_G} {cy : Nat → ClassId} {G : Gm} {v0 : Nat} {v1 : Int32} {S : St} {Q : St → Prop} (C : CX p s m args meth c b D cy cX11_putBack RX11 3 none) (hE : s.heap.size + 0 ≤ b + G.2.2) (t_v0 : ok G 10 v0) (h : f_X11_putBack G v0 v1 Q S) : J p l e rm_X11_putBack s m args below meth c b D cy 3 (zV b D cy below args s G Q) 0 0 G S 0 [(0, .ref (b + v0)), (1, .int v1)] [] := by
  unfold f_X11_putBack at h
  refine jB C [(.iconst 0, 1, 0), (.istore_n 2, 1, 0)] 2 [(2, .int 0), (0, .ref (b + v0)), (1, .int v1)] [] (by decide +kernel) rfl rfl ?_
  refine jSub [1, 2, 0] rfl ?_
  exact j_X11_putBack_2 C hE t_v0 h
theorem ok_X11_putBack {G : Gm} {v0 : Nat} {v1 : Int32} {S : St} {Q : St → Prop}  (t_v0 : ok G 10 v0) (h : f_X11_putBack G v0 v1 Q S) : MT yX11_putBack cX11_putBack 3 none rm_X11_putBack 0 0 (fun b => [.ref (b + v0), .int v1]) G S (QV (fun G1 S1 => G1 = G ∧ Q S1)) := MT.ofJ (by decide +kernel) (fun b => [(0, .ref (b + v0)), (1, .int v1)]) (fun b => rfl) (fun b => Nat.le_of_ble_eq_true rfl) (fun l b D cy p e s m below meth c C hE hn => j_X11_putBack C hE t_v0 h)
theorem hd_X11_putBack : yX11_putBack.cls ≠ "java/lang/invoke/MethodHandle" ∧ yX11_putBack.cls ≠ "java/lang/invoke/VarHandle" ∧ (parseMethodDescriptor yX11_putBack.desc).map (fun d => d.parameters.length) = some 1 := by decide +kernel
abbrev rm_X11_giveBack : Room := { frames := 1, cells := 0, slots := 0, locals := 22 }
set_option maxHeartbeats 4000000 in
set_option maxRecDepth 100000 in
theorem j_X11_giveBack_35_n {p : Program} {l : Launch} {e : Env} {s : State} {m : MethodId} {args : Array Value} {below : List Frame} {meth : Method} {c : Code} {b : Nat} {D : va_G} {cy : Nat → ClassId} {G : Gm} {v0 : Nat} {v1 : Int32} {Q : St → Prop} (C : CX p s m args meth c b D cy cX11_giveBack RX11 3 none) (hE : s.heap.size + 0 ≤ b + G.2.2) (t_v0 : ok G 10 v0) : ∀ k (v2 : Int32) S, f_X11_giveBack_35_n G v0 v1 Q k v2 S → J p l e rm_X11_giveBack s m args below meth c b D cy 3 (zV b D cy below args s G Q) 0 0 G S 35 [(0, .ref (b + v0)), (1, .int v1), (2, .int v2)] [] := by
  intro k
  induction k with
  | zero => intro v2 S h; exact h.elim
  | succ k ih =>
    intro v2 S h
    unfold f_X11_giveBack_35_n at h
    refine jB C [(.iload_n 2, 1, 0), (.bipush 16, 2, 16)] 38 [(0, .ref (b + v0)), (1, .int v1), (2, .int v2)] [.int 16, .int v2] (by decide +kernel) rfl rfl ?_
    refine jIcmp_ge C 41 59 (by decide +kernel : decode cX11_giveBack 38 = .ok (.if_icmp .ge 21, 3)) rfl rfl (fun c1 => ?_) (fun c1 => ?_)
    · have h := it1 h c1
      refine jB C [(.aload_n 0, 1, 0), (.iload_n 1, 1, 0)] 61 [(0, .ref (b + v0)), (1, .int v1), (2, .int v2)] [.int v1, .ref (b + v0)] (by decide +kernel) rfl rfl ?_
      refine jPutI C 64 (by decide +kernel : decode cX11_giveBack 61 = .ok (.putfield 171, 3)) rfl hE t_v0 kX11 9 (by decide) rfl rfl (by decide) rfl wd_1163 rfl rfl rfl ?_
      refine jTopS (fun S2 e_S2 => ?_)
      have h := h S2 e_S2
      exact jRetV C (by decide +kernel : decode cX11_giveBack 64 = .ok (.return_, 1)) (Nat.le_refl _) (Nat.le_refl _) ⟨rfl, h⟩
    · have h := it2 h c1
      refine jB C [(.aload_n 0, 1, 0)] 42 [(0, .ref (b + v0)), (1, .int v1), (2, .int v2)] [.ref (b + v0)] (by decide +kernel) rfl rfl ?_
      obtain ⟨a3, e_a3, h⟩ := h
      refine jGetR C 45 (by decide +kernel : decode cX11_giveBack 42 = .ok (.getfield 29, 3)) rfl t_v0 kX11 8 (by decide) rfl rfl (by decide) wd_1162 e_a3 rfl (fun t_a3 => ?_)
      refine jB C [(.iload_n 2, 1, 0), (.aload_n 0, 1, 0)] 47 [(0, .ref (b + v0)), (1, .int v1), (2, .int v2)] [.ref (b + v0), .int v2, .ref (b + a3)] (by decide +kernel) rfl rfl ?_
      obtain ⟨a4, e_a4, h⟩ := h
      refine jGetR C 50 (by decide +kernel : decode cX11_giveBack 47 = .ok (.getfield 35, 3)) rfl t_v0 kX11 11 (by decide) rfl rfl (by decide) wd_1165 e_a4 rfl (fun t_a4 => ?_)
      refine jB C [(.iload_n 2, 1, 0)] 51 [(0, .ref (b + v0)), (1, .int v1), (2, .int v2)] [.int v2, .ref (b + a4), .int v2, .ref (b + a3)] (by decide +kernel) rfl rfl ?_
      obtain ⟨y5, h⟩ := h
      refine jIald C 52 (by decide +kernel : decode cX11_giveBack 51 = .ok (.iaload, 1)) rfl t_a4 y5 ?_
      obtain ⟨y6, h⟩ := h
      refine jIast C 53 (by decide +kernel : decode cX11_giveBack 52 = .ok (.iastore, 1)) rfl hE t_a3 y6 ?_
      refine jTopS (fun S7 e_S7 => ?_)
      have h := h S7 e_S7
      refine jB C [(.iinc 2 1, 3, 1)] 56 [(2, .int (v2 + 1)), (0, .ref (b + v0)), (1, .int v1)] [] (by decide +kernel) rfl rfl ?_
      refine jGoto C 35 (by decide +kernel : decode cX11_giveBack 56 = .ok (.goto (-21), 3)) rfl ?_
      refine jSub [1, 2, 0] rfl ?_
      exact ih (v2 + 1) S7 h
theorem j_X11_giveBack_35 {p : Program} {l : Launch} {e : Env} {s : State} {m : MethodId} {args : Array Value} {below : List Frame} {meth : Method} {c : Code} {b : Nat} {D : va_G} {cy : Nat → ClassId} {G : Gm} {v0 : Nat} {v1 : Int32} {v2 : Int32} {S : St} {Q : St → Prop} (C : CX p s m args meth c b D cy cX11_giveBack RX11 3 none) (hE : s.heap.size + 0 ≤ b + G.2.2) (t_v0 : ok G 10 v0) (h : f_X11_giveBack_35 G v0 v1 Q v2 S) : J p l e rm_X11_giveBack s m args below meth c b D cy 3 (zV b D cy below args s G Q) 0 0 G S 35 [(0, .ref (b + v0)), (1, .int v1), (2, .int v2)] [] := by
  obtain ⟨k, h⟩ := h
  exact j_X11_giveBack_35_n C hE t_v0 k v2 S h
set_option maxHeartbeats 4000000 in
set_option maxRecDepth 100000 in
theorem j_X11_giveBack_8_n {p : Program} {l : Launch} {e : Env} {s : State} {m : MethodId} {args : Array Value} {below : List Frame} {meth : Method} {c : Code} {b : Nat} {D : va_G} {cy : Nat → ClassId} {G : Gm} {v0 : Nat} {v1 : Int32} {Q : St → Prop} (C : CX p s m args meth c b D cy cX11_giveBack RX11 3 none) (hE : s.heap.size + 0 ≤ b + G.2.2) (t_v0 : ok G 10 v0) : ∀ k (v2 : Int32) S, f_X11_giveBack_8_n G v0 v1 Q k v2 S → J p l e rm_X11_giveBack s m args below meth c b D cy 3 (zV b D cy below args s G Q) 0 0 G S 8 [(0, .ref (b + v0)), (1, .int v1), (2, .int v2)] [] := by
  intro k
  induction k with
  | zero => intro v2 S h; exact h.elim
  | succ k ih =>
    intro v2 S h
    unfold f_X11_giveBack_8_n at h
    refine jB C [(.iload_n 2, 1, 0), (.sipush 928, 3, 928)] 12 [(0, .ref (b + v0)), (1, .int v1), (2, .int v2)] [.int 928, .int v2] (by decide +kernel) rfl rfl ?_
    refine jIcmp_ge C 15 33 (by decide +kernel : decode cX11_giveBack 12 = .ok (.if_icmp .ge 21, 3)) rfl rfl (fun c1 => ?_) (fun c1 => ?_)
    · have h := it1 h c1
      refine jB C [(.iconst 0, 1, 0), (.istore_n 2, 1, 0)] 35 [(2, .int 0), (0, .ref (b + v0)), (1, .int v1)] [] (by decide +kernel) rfl rfl ?_
      refine jSub [1, 2, 0] rfl ?_
      exact j_X11_giveBack_35 C hE t_v0 h
    · have h := it2 h c1
      refine jB C [(.aload_n 0, 1, 0)] 16 [(0, .ref (b + v0)), (1, .int v1), (2, .int v2)] [.ref (b + v0)] (by decide +kernel) rfl rfl ?_
      obtain ⟨a2, e_a2, h⟩ := h
      refine jGetR C 19 (by decide +kernel : decode cX11_giveBack 16 = .ok (.getfield 26, 3)) rfl t_v0 kX11 7 (by decide) rfl rfl (by decide) wd_1161 e_a2 rfl (fun t_a2 => ?_)
      refine jB C [(.iload_n 2, 1, 0), (.aload_n 0, 1, 0)] 21 [(0, .ref (b + v0)), (1, .int v1), (2, .int v2)] [.ref (b + v0), .int v2, .ref (b + a2)] (by decide +kernel) rfl rfl ?_
      obtain ⟨a3, e_a3, h⟩ := h
      refine jGetR C 24 (by decide +kernel : decode cX11_giveBack 21 = .ok (.getfield 32, 3)) rfl t_v0 kX11 10 (by decide) rfl rfl (by decide) wd_1164 e_a3 rfl (fun t_a3 => ?_)
      refine jB C [(.iload_n 2, 1, 0)] 25 [(0, .ref (b + v0)), (1, .int v1), (2, .int v2)] [.int v2, .ref (b + a3), .int v2, .ref (b + a2)] (by decide +kernel) rfl rfl ?_
      obtain ⟨y4, h⟩ := h
      refine jIald C 26 (by decide +kernel : decode cX11_giveBack 25 = .ok (.iaload, 1)) rfl t_a3 y4 ?_
      obtain ⟨y5, h⟩ := h
      refine jIast C 27 (by decide +kernel : decode cX11_giveBack 26 = .ok (.iastore, 1)) rfl hE t_a2 y5 ?_
      refine jTopS (fun S6 e_S6 => ?_)
      have h := h S6 e_S6
      refine jB C [(.iinc 2 1, 3, 1)] 30 [(2, .int (v2 + 1)), (0, .ref (b + v0)), (1, .int v1)] [] (by decide +kernel) rfl rfl ?_
      refine jGoto C 8 (by decide +kernel : decode cX11_giveBack 30 = .ok (.goto (-22), 3)) rfl ?_
      refine jSub [1, 2, 0] rfl ?_
      exact ih (v2 + 1) S6 h
theorem j_X11_giveBack_8 {p : Program} {l : Launch} {e : Env} {s : State} {m : MethodId} {args : Array Value} {below : List Frame} {meth : Method} {c : Code} {b : Nat} {D : va_G} {cy : Nat → ClassId} {G : Gm} {v0 : Nat} {v1 : Int32} {v2 : Int32} {S : St} {Q : St → Prop} (C : CX p s m args meth c b D cy cX11_giveBack RX11 3 none) (hE : s.heap.size + 0 ≤ b + G.2.2) (t_v0 : ok G 10 v0) (h : f_X11_giveBack_8 G v0 v1 Q v2 S) : J p l e rm_X11_giveBack s m args below meth c b D cy 3 (zV b D cy below args s G Q) 0 0 G S 8 [(0, .ref (b + v0)), (1, .int v1), (2, .int v2)] [] := by
  obtain ⟨k, h⟩ := h
  exact j_X11_giveBack_8_n C hE t_v0 k v2 S h
set_option maxHeartbeats 4000000 in
set_option maxRecDepth 100000 in
theorem j_X11_giveBack {p : Program} {l : Launch} {e : Env} {s : State} {m : MethodId} {args : Array Value} {below : List Frame} {meth : Method} {c : Code} {b : Nat} {D : va_G} {cy : Nat → ClassId} {G : Gm} {v0 : Nat} {v1 : Int32} {S : St} {Q : St → Prop} (C : CX p s m args meth c b D cy cX11_giveBack RX11 3 none) (hE : s.heap.size + 0 ≤ b + G.2.2) (t_v0 : ok G 10 v0) (h : f_X11_giveBack G v0 v1 Q S) : J p l e rm_X11_giveBack s m args below meth c b D cy 3 (zV b D cy below args s G Q) 0 0 G S 0 [(0, .ref (b + v0)), (1, .int v1)] [] := by
  unfold f_X11_giveBack at h
  refine jB C [(.aload_n 0, 1, 0), (.bipush 17, 2, 17)] 3 [(0, .ref (b + v0)), (1, .int v1)] [.int 17, .ref (b + v0)] (by decide +kernel) rfl rfl ?_
  refine jcV_V C 6 (rest := []) (ok_X11_putBack t_v0 h) (by decide +kernel : decode cX11_giveBack 3 = .ok (.invokevirtual 182, 3)) rfl wd_1344 wd_1346 wp_100 wd_12 wd_1347 ⟨rfl, rfl⟩ hd_X11_putBack ⟨Nat.le_of_ble_eq_true rfl, Nat.le_of_ble_eq_true rfl⟩ t_v0 kX11 (by decide) rfl rfl rfl (Nat.le_of_ble_eq_true rfl) ⟨Nat.zero_le _, Nat.zero_le _⟩ (fun S1 h => ?_)
  refine jB C [(.iconst 0, 1, 0), (.istore_n 2, 1, 0)] 8 [(2, .int 0), (0, .ref (b + v0)), (1, .int v1)] [] (by decide +kernel) rfl rfl ?_
  refine jSub [1, 2, 0] rfl ?_
  exact j_X11_giveBack_8 C hE t_v0 h
theorem ok_X11_giveBack {G : Gm} {v0 : Nat} {v1 : Int32} {S : St} {Q : St → Prop}  (t_v0 : ok G 10 v0) (h : f_X11_giveBack G v0 v1 Q S) : MT yX11_giveBack cX11_giveBack 3 none rm_X11_giveBack 0 0 (fun b => [.ref (b + v0), .int v1]) G S (QV (fun G1 S1 => G1 = G ∧ Q S1)) := MT.ofJ (by decide +kernel) (fun b => [(0, .ref (b + v0)), (1, .int v1)]) (fun b => rfl) (fun b => Nat.le_of_ble_eq_true rfl) (fun l b D cy p e s m below meth c C hE hn => j_X11_giveBack C hE t_v0 h)
theorem hd_X11_giveBack : yX11_giveBack.cls ≠ "java/lang/invoke/MethodHandle" ∧ yX11_giveBack.cls ≠ "java/lang/invoke/VarHandle" ∧ (parseMethodDescriptor yX11_giveBack.desc).map (fun d => d.parameters.length) = some 1 := by decide +kernel
abbrev rm_X11_isGlass : Room := { frames := 1, cells := 0, slots := 0, locals := 25 }
set_option maxHeartbeats 4000000 in
set_option maxRecDepth 100000 in
theorem j_X11_isGlass_48 {p : Program} {l : Launch} {e : Env} {s : State} {m : MethodId} {args : Array Value} {below : List Frame} {meth : Method} {c : Code} {b : Nat} {D : va_G} {cy : Nat → ClassId} {G : Gm} {k20 : Int32 → Int32 → St → Prop} {v2 : Int32} {u0 : Int32} {S : St} {Q : Int32 → St → Prop} (C : CX p s m args meth c b D cy cX11_isGlass RX11 3 (some .boolean)) (hE : s.heap.size + 0 ≤ b + G.2.2) (hk20 : ∀ v1' v2' S, k20 v1' v2' S → J p l e rm_X11_isGlass s m args below meth c b D cy 3 (zI b D cy below args s G Q) 0 0 G S 20 [(1, .int (v1')), (2, .int (v2'))] []) (h : f_X11_isGlass_48 G k20 v2 u0 Q S) : J p l e rm_X11_isGlass s m args below meth c b D cy 3 (zI b D cy below args s G Q) 0 0 G S 48 [(2, .int v2)] [.int u0] := by
  unfold f_X11_isGlass_48 at h
  refine jB C [(.istore_n 1, 1, 0), (.iload_n 2, 1, 0), (.bipush 10, 2, 10)] 52 [(1, .int u0), (2, .int v2)] [.int 10, .int v2] (by decide +kernel) rfl rfl ?_
  refine jIdiv C 53 (by decide +kernel : decode cX11_isGlass 52 = .ok (.idiv, 1)) rfl (by decide) ?_
  refine jTopI (fun x1 e_x1 => ?_)
  have h := h x1 e_x1
  refine jB C [(.istore_n 2, 1, 0)] 54 [(2, .int x1), (1, .int u0)] [] (by decide +kernel) rfl rfl ?_
  refine jGoto C 20 (by decide +kernel : decode cX11_isGlass 54 = .ok (.goto (-34), 3)) rfl ?_
  refine jSub [1, 0] rfl ?_
  exact hk20 u0 x1 S h
set_option maxHeartbeats 4000000 in
set_option maxRecDepth 100000 in
theorem j_X11_isGlass_47 {p : Program} {l : Launch} {e : Env} {s : State} {m : MethodId} {args : Array Value} {below : List Frame} {meth : Method} {c : Code} {b : Nat} {D : va_G} {cy : Nat → ClassId} {G : Gm} {k20 : Int32 → Int32 → St → Prop} {v2 : Int32} {S : St} {Q : Int32 → St → Prop} (C : CX p s m args meth c b D cy cX11_isGlass RX11 3 (some .boolean)) (hE : s.heap.size + 0 ≤ b + G.2.2) (hk20 : ∀ v1' v2' S, k20 v1' v2' S → J p l e rm_X11_isGlass s m args below meth c b D cy 3 (zI b D cy below args s G Q) 0 0 G S 20 [(1, .int (v1')), (2, .int (v2'))] []) (h : f_X11_isGlass_47 G k20 v2 Q S) : J p l e rm_X11_isGlass s m args below meth c b D cy 3 (zI b D cy below args s G Q) 0 0 G S 47 [(2, .int v2)] [] := by
  unfold f_X11_isGlass_47 at h
  refine jB C [(.iconst 0, 1, 0)] 48 [(2, .int v2)] [.int 0] (by decide +kernel) rfl rfl ?_
  refine jSub [0] rfl ?_
  exact j_X11_isGlass_48 C hE hk20 h
set_option maxHeartbeats 4000000 in
set_option maxRecDepth 100000 in
theorem j_X11_isGlass_20_n {p : Program} {l : Launch} {e : Env} {s : State} {m : MethodId} {args : Array Value} {below : List Frame} {meth : Method} {c : Code} {b : Nat} {D : va_G} {cy : Nat → ClassId} {G : Gm} {Q : Int32 → St → Prop} (C : CX p s m args meth c b D cy cX11_isGlass RX11 3 (some .boolean)) (hE : s.heap.size + 0 ≤ b + G.2.2) : ∀ k (v1 : Int32) (v2 : Int32) S, f_X11_isGlass_20_n G Q k v1 v2 S → J p l e rm_X11_isGlass s m args below meth c b D cy 3 (zI b D cy below args s G Q) 0 0 G S 20 [(1, .int v1), (2, .int v2)] [] := by
  intro k
  induction k with
  | zero => intro v1 v2 S h; exact h.elim
  | succ k ih =>
    intro v1 v2 S h
    unfold f_X11_isGlass_20_n at h
    refine jB C [(.iload_n 2, 1, 0)] 21 [(1, .int v1), (2, .int v2)] [.int v2] (by decide +kernel) rfl rfl ?_
    refine jIf_le C 24 57 (by decide +kernel : decode cX11_isGlass 21 = .ok (.ifCond .le 36, 3)) rfl rfl (fun c1 => ?_) (fun c1 => ?_)
    · have h := it1 h c1
      refine jB C [(.iload_n 1, 1, 0)] 58 [(1, .int v1), (2, .int v2)] [.int v1] (by decide +kernel) rfl rfl ?_
      exact jRetZ C (by decide +kernel : decode cX11_isGlass 58 = .ok (.ireturn, 1)) (Nat.le_refl _) (Nat.le_refl _) h.1 ⟨rfl, h.2⟩
    · have h := it2 h c1
      refine jB C [(.iload_n 1, 1, 0)] 25 [(1, .int v1), (2, .int v2)] [.int v1] (by decide +kernel) rfl rfl ?_
      refine jIf_eq C 28 47 (by decide +kernel : decode cX11_isGlass 25 = .ok (.ifCond .eq 22, 3)) rfl rfl (fun c2 => ?_) (fun c2 => ?_)
      · have h := it1 h c2
        refine jSub [1] rfl ?_
        exact j_X11_isGlass_47 C hE ih h
      · have h := it2 h c2
        refine jB C [(.iload_n 2, 1, 0), (.bipush 10, 2, 10)] 31 [(1, .int v1), (2, .int v2)] [.int 10, .int v2] (by decide +kernel) rfl rfl ?_
        refine jIrem C 32 (by decide +kernel : decode cX11_isGlass 31 = .ok (.irem, 1)) rfl (by decide) ?_
        refine jB C [(.i2l, 1, 0), (.lconst 1, 1, 0)] 34 [(1, .int v1), (2, .int v2)] [.long 1, .long ((v2 - v2 / 10 * 10).toInt64)] (by decide +kernel) rfl rfl ?_
        refine jLdc2 C 37 (by decide +kernel : decode cX11_isGlass 34 = .ok (.ldc2_w 203, 3)) rfl wd_1371 ?_
        refine jcS_I C 40 (rest := []) (ok_X11_in h) (by decide +kernel : decode cX11_isGlass 37 = .ok (.invokestatic 185, 3)) rfl wd_1352 wd_1353 wd_12 wd_1354 ⟨rfl, rfl⟩ hd_X11_in ⟨Nat.le_of_ble_eq_true rfl, Nat.le_of_ble_eq_true rfl⟩ rfl rfl (Nat.le_of_ble_eq_true rfl) ⟨Nat.zero_le _, Nat.zero_le _⟩ (fun r4 S3 h => ?_)
        refine jIf_eq C 43 47 (by decide +kernel : decode cX11_isGlass 40 = .ok (.ifCond .eq 7, 3)) rfl rfl (fun c5 => ?_) (fun c5 => ?_)
        · have h := it1 h c5
          refine jSub [1] rfl ?_
          exact j_X11_isGlass_47 C hE ih h
        · have h := it2 h c5
          refine jB C [(.iconst 1, 1, 1)] 44 [(1, .int v1), (2, .int v2)] [.int 1] (by decide +kernel) rfl rfl ?_
          refine jGoto C 48 (by decide +kernel : decode cX11_isGlass 44 = .ok (.goto 4, 3)) rfl ?_
          refine jSub [1] rfl ?_
          exact j_X11_isGlass_48 C hE ih h
theorem j_X11_isGlass_20 {p : Program} {l : Launch} {e : Env} {s : State} {m : MethodId} {args : Array Value} {below : List Frame} {meth : Method} {c : Code} {b : Nat} {D : va_G} {cy : Nat → ClassId} {G : Gm} {v1 : Int32} {v2 : Int32} {S : St} {Q : Int32 → St → Prop} (C : CX p s m args meth c b D cy cX11_isGlass RX11 3 (some .boolean)) (hE : s.heap.size + 0 ≤ b + G.2.2) (h : f_X11_isGlass_20 G Q v1 v2 S) : J p l e rm_X11_isGlass s m args below meth c b D cy 3 (zI b D cy below args s G Q) 0 0 G S 20 [(1, .int v1), (2, .int v2)] [] := by
  obtain ⟨k, h⟩ := h
  exact j_X11_isGlass_20_n C hE k v1 v2 S h
set_option maxHeartbeats 4000000 in
set_option maxRecDepth 100000 in
theorem j_X11_isGlass {p : Program} {l : Launch} {e : Env} {s : State} {m : MethodId} {args : Array Value} {below : List Frame} {meth : Method} {c : Code} {b : Nat} {D : va_G} {cy : Nat → ClassId} {G : Gm} {v0 : Int32} {S : St} {Q : Int32 → St → Prop} (C : CX p s m args meth c b D cy cX11_isGlass RX11 3 (some .boolean)) (hE : s.heap.size + 0 ≤ b + G.2.2) (h : f_X11_isGlass G v0 Q S) : J p l e rm_X11_isGlass s m args below meth c b D cy 3 (zI b D cy below args s G Q) 0 0 G S 0 [(0, .int v0)] [] := by
  unfold f_X11_isGlass at h
  refine jB C [(.iload_n 0, 1, 0), (.i2l, 1, 0), (.lconst 0, 1, 0)] 3 [(0, .int v0)] [.long 0, .long v0.toInt64] (by decide +kernel) rfl rfl ?_
  refine jLdc2 C 6 (by decide +kernel : decode cX11_isGlass 3 = .ok (.ldc2_w 233, 3)) rfl wd_1456 ?_
  refine jcS_I C 9 (rest := []) (ok_X11_in h) (by decide +kernel : decode cX11_isGlass 6 = .ok (.invokestatic 185, 3)) rfl wd_1352 wd_1353 wd_12 wd_1354 ⟨rfl, rfl⟩ hd_X11_in ⟨Nat.le_of_ble_eq_true rfl, Nat.le_of_ble_eq_true rfl⟩ rfl rfl (Nat.le_of_ble_eq_true rfl) ⟨Nat.zero_le _, Nat.zero_le _⟩ (fun r2 S1 h => ?_)
  refine jB C [(.istore_n 1, 1, 0), (.iload_n 1, 1, 0)] 11 [(1, .int r2), (0, .int v0)] [.int r2] (by decide +kernel) rfl rfl ?_
  refine jIf_eq C 14 18 (by decide +kernel : decode cX11_isGlass 11 = .ok (.ifCond .eq 7, 3)) rfl rfl (fun c3 => ?_) (fun c3 => ?_)
  · have h := it1 h c3
    refine jB C [(.iconst 0, 1, 0), (.istore_n 2, 1, 0)] 20 [(2, .int 0), (1, .int r2), (0, .int v0)] [] (by decide +kernel) rfl rfl ?_
    refine jSub [1, 0] rfl ?_
    exact j_X11_isGlass_20 C hE h
  · have h := it2 h c3
    refine jB C [(.iload_n 0, 1, 0)] 15 [(1, .int r2), (0, .int v0)] [.int v0] (by decide +kernel) rfl rfl ?_
    refine jGoto C 19 (by decide +kernel : decode cX11_isGlass 15 = .ok (.goto 4, 3)) rfl ?_
    refine jB C [(.istore_n 2, 1, 0)] 20 [(2, .int v0), (1, .int r2), (0, .int v0)] [] (by decide +kernel) rfl rfl ?_
    refine jSub [1, 0] rfl ?_
    exact j_X11_isGlass_20 C hE h
theorem ok_X11_isGlass {G : Gm} {v0 : Int32} {S : St} {Q : Int32 → St → Prop}  (h : f_X11_isGlass G v0 Q S) : MT yX11_isGlass cX11_isGlass 3 (some .boolean) rm_X11_isGlass 0 0 (fun b => [.int v0]) G S (QI (fun r G1 S1 => G1 = G ∧ Q r S1)) := MT.ofJ (by decide +kernel) (fun b => [(0, .int v0)]) (fun b => rfl) (fun b => Nat.le_of_ble_eq_true rfl) (fun l b D cy p e s m below meth c C hE hn => j_X11_isGlass C hE h)
theorem hd_X11_isGlass : yX11_isGlass.cls ≠ "java/lang/invoke/MethodHandle" ∧ yX11_isGlass.cls ≠ "java/lang/invoke/VarHandle" ∧ (parseMethodDescriptor yX11_isGlass.desc).map (fun d => d.parameters.length) = some 1 := by decide +kernel
