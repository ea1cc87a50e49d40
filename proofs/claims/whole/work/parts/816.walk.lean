abbrev rm_X11_mixed : Room := { frames := 3, cells := 0, slots := 0, locals := 68 }
set_option maxHeartbeats 4000000 in
set_option maxRecDepth 100000 in
theorem j_X11_mixed_91 {p : Program} {l : Launch} {e : Env} {s : State} {m : MethodId} {args : Array Value} {below : List Frame} {meth : Method} {c : Code} {b : Nat} {D : va_G} {cy : Nat → ClassId} {G : Gm} {k12 : Int32 → Int32 → Int32 → St → Prop} {k29 : Int32 → Int32 → Int32 → St → Prop} {v0 : Nat} {v1 : Int32} {v2 : Int32} {v4 : Int32} {v5 : Int32} {v6 : Int32} {u0 : Int32} {S : St} {Q : Int32 → St → Prop} (C : CX p s m args meth c b D cy cX11_mixed RX11 7 (some .int)) (hE : s.heap.size + 0 ≤ b + G.2.2) (t_v0 : ok G 10 v0) (hk12 : ∀ v2' v3' v4' S, k12 v2' v3' v4' S → J p l e rm_X11_mixed s m args below meth c b D cy 7 (zI b D cy below args s G Q) 0 0 G S 12 [(0, .ref (b + v0)), (1, .int v1), (2, .int (v2')), (3, .int (v3')), (4, .int (v4'))] []) (hk29 : ∀ v2' v3' v5' S, k29 v2' v3' v5' S → J p l e rm_X11_mixed s m args below meth c b D cy 7 (zI b D cy below args s G Q) 0 0 G S 29 [(0, .ref (b + v0)), (1, .int v1), (2, .int (v2')), (3, .int (v3')), (4, .int v4), (5, .int (v5'))] []) (h : f_X11_mixed_91 G k12 k29 v0 v1 v2 v4 v5 v6 u0 Q S) : J p l e rm_X11_mixed s m args below meth c b D cy 7 (zI b D cy below args s G Q) 0 0 G S 91 [(0, .ref (b + v0)), (1, .int v1), (2, .int v2), (4, .int v4), (5, .int v5), (6, .int v6)] [.int u0] := by
  unfold f_X11_mixed_91 at h
  refine jB C [(.istore_n 3, 1, 0), (.iload_n 2, 1, 0), (.iload 6, 2, 0)] 95 [(3, .int u0), (0, .ref (b + v0)), (1, .int v1), (2, .int v2), (4, .int v4), (5, .int v5), (6, .int v6)] [.int v6, .int v2] (by decide +kernel) rfl rfl ?_
  refine jIf_eq C 98 102 (by decide +kernel : decode cX11_mixed 95 = .ok (.ifCond .eq 7, 3)) rfl rfl (fun c1 => ?_) (fun c1 => ?_)
  · have h := it1 h c1
    refine jB C [(.iconst 0, 1, 0), (.iadd, 1, 0)] 104 [(3, .int u0), (0, .ref (b + v0)), (1, .int v1), (2, .int v2), (4, .int v4), (5, .int v5), (6, .int v6)] [.int (v2 + 0)] (by decide +kernel) rfl rfl ?_
    refine jTopI (fun x2 e_x2 => ?_)
    have h := h x2 e_x2
    refine jB C [(.istore_n 2, 1, 0), (.iinc 5 1, 3, 1)] 108 [(5, .int (v5 + 1)), (2, .int x2), (3, .int u0), (0, .ref (b + v0)), (1, .int v1), (4, .int v4), (6, .int v6)] [] (by decide +kernel) rfl rfl ?_
    refine jGoto C 29 (by decide +kernel : decode cX11_mixed 108 = .ok (.goto (-79), 3)) rfl ?_
    refine jSub [3, 4, 1, 2, 5, 0] rfl ?_
    exact hk29 x2 u0 (v5 + 1) S h
  · have h := it2 h c1
    refine jB C [(.iconst 1, 1, 1)] 99 [(3, .int u0), (0, .ref (b + v0)), (1, .int v1), (2, .int v2), (4, .int v4), (5, .int v5), (6, .int v6)] [.int 1, .int v2] (by decide +kernel) rfl rfl ?_
    refine jGoto C 103 (by decide +kernel : decode cX11_mixed 99 = .ok (.goto 4, 3)) rfl ?_
    refine jB C [(.iadd, 1, 0)] 104 [(3, .int u0), (0, .ref (b + v0)), (1, .int v1), (2, .int v2), (4, .int v4), (5, .int v5), (6, .int v6)] [.int (v2 + 1)] (by decide +kernel) rfl rfl ?_
    refine jTopI (fun x3 e_x3 => ?_)
    have h := h x3 e_x3
    refine jB C [(.istore_n 2, 1, 0), (.iinc 5 1, 3, 1)] 108 [(5, .int (v5 + 1)), (2, .int x3), (3, .int u0), (0, .ref (b + v0)), (1, .int v1), (4, .int v4), (6, .int v6)] [] (by decide +kernel) rfl rfl ?_
    refine jGoto C 29 (by decide +kernel : decode cX11_mixed 108 = .ok (.goto (-79), 3)) rfl ?_
    refine jSub [3, 4, 1, 2, 5, 0] rfl ?_
    exact hk29 x3 u0 (v5 + 1) S h
set_option maxHeartbeats 4000000 in
set_option maxRecDepth 100000 in
theorem j_X11_mixed_90 {p : Program} {l : Launch} {e : Env} {s : State} {m : MethodId} {args : Array Value} {below : List Frame} {meth : Method} {c : Code} {b : Nat} {D : va_G} {cy : Nat → ClassId} {G : Gm} {k12 : Int32 → Int32 → Int32 → St → Prop} {k29 : Int32 → Int32 → Int32 → St → Prop} {v0 : Nat} {v1 : Int32} {v2 : Int32} {v3 : Int32} {v4 : Int32} {v5 : Int32} {v6 : Int32} {S : St} {Q : Int32 → St → Prop} (C : CX p s m args meth c b D cy cX11_mixed RX11 7 (some .int)) (hE : s.heap.size + 0 ≤ b + G.2.2) (t_v0 : ok G 10 v0) (hk12 : ∀ v2' v3' v4' S, k12 v2' v3' v4' S → J p l e rm_X11_mixed s m args below meth c b D cy 7 (zI b D cy below args s G Q) 0 0 G S 12 [(0, .ref (b + v0)), (1, .int v1), (2, .int (v2')), (3, .int (v3')), (4, .int (v4'))] []) (hk29 : ∀ v2' v3' v5' S, k29 v2' v3' v5' S → J p l e rm_X11_mixed s m args below meth c b D cy 7 (zI b D cy below args s G Q) 0 0 G S 29 [(0, .ref (b + v0)), (1, .int v1), (2, .int (v2')), (3, .int (v3')), (4, .int v4), (5, .int (v5'))] []) (h : f_X11_mixed_90 G k12 k29 v0 v1 v2 v3 v4 v5 v6 Q S) : J p l e rm_X11_mixed s m args below meth c b D cy 7 (zI b D cy below args s G Q) 0 0 G S 90 [(0, .ref (b + v0)), (1, .int v1), (2, .int v2), (3, .int v3), (4, .int v4), (5, .int v5), (6, .int v6)] [] := by
  unfold f_X11_mixed_90 at h
  refine jB C [(.iload_n 3, 1, 0)] 91 [(0, .ref (b + v0)), (1, .int v1), (2, .int v2), (3, .int v3), (4, .int v4), (5, .int v5), (6, .int v6)] [.int v3] (by decide +kernel) rfl rfl ?_
  refine jSub [0, 1, 2, 4, 5, 6] rfl ?_
  exact j_X11_mixed_91 C hE t_v0 hk12 hk29 h
set_option maxHeartbeats 4000000 in
set_option maxRecDepth 100000 in
theorem j_X11_mixed_29_n {p : Program} {l : Launch} {e : Env} {s : State} {m : MethodId} {args : Array Value} {below : List Frame} {meth : Method} {c : Code} {b : Nat} {D : va_G} {cy : Nat → ClassId} {G : Gm} {k12 : Int32 → Int32 → Int32 → St → Prop} {v0 : Nat} {v1 : Int32} {v4 : Int32} {Q : Int32 → St → Prop} (C : CX p s m args meth c b D cy cX11_mixed RX11 7 (some .int)) (hE : s.heap.size + 0 ≤ b + G.2.2) (t_v0 : ok G 10 v0) (hk12 : ∀ v2' v3' v4' S, k12 v2' v3' v4' S → J p l e rm_X11_mixed s m args below meth c b D cy 7 (zI b D cy below args s G Q) 0 0 G S 12 [(0, .ref (b + v0)), (1, .int v1), (2, .int (v2')), (3, .int (v3')), (4, .int (v4'))] []) : ∀ k (v2 : Int32) (v3 : Int32) (v5 : Int32) S, f_X11_mixed_29_n G k12 v0 v1 v4 Q k v2 v3 v5 S → J p l e rm_X11_mixed s m args below meth c b D cy 7 (zI b D cy below args s G Q) 0 0 G S 29 [(0, .ref (b + v0)), (1, .int v1), (2, .int v2), (3, .int v3), (4, .int v4), (5, .int v5)] [] := by
  intro k
  induction k with
  | zero => intro v2 v3 v5 S h; exact h.elim
  | succ k ih =>
    intro v2 v3 v5 S h
    unfold f_X11_mixed_29_n at h
    refine jB C [(.iload 5, 2, 0), (.aload_n 0, 1, 0)] 32 [(0, .ref (b + v0)), (1, .int v1), (2, .int v2), (3, .int v3), (4, .int v4), (5, .int v5)] [.ref (b + v0), .int v5] (by decide +kernel) rfl rfl ?_
    obtain ⟨a1, e_a1, h⟩ := h
    refine jGetR C 35 (by decide +kernel : decode cX11_mixed 32 = .ok (.getfield 16, 3)) rfl t_v0 kX11 4 (by decide) rfl rfl (by decide) wd_1158 e_a1 rfl (fun t_a1 => ?_)
    refine jB C [(.iconst 0, 1, 0)] 36 [(0, .ref (b + v0)), (1, .int v1), (2, .int v2), (3, .int v3), (4, .int v4), (5, .int v5)] [.int 0, .ref (b + a1), .int v5] (by decide +kernel) rfl rfl ?_
    obtain ⟨y2, h⟩ := h
    refine jIald C 37 (by decide +kernel : decode cX11_mixed 36 = .ok (.iaload, 1)) rfl t_a1 y2 ?_
    refine jIcmp_ge C 40 111 (by decide +kernel : decode cX11_mixed 37 = .ok (.if_icmp .ge 74, 3)) rfl rfl (fun c3 => ?_) (fun c3 => ?_)
    · have h := it1 h c3
      refine jB C [(.iinc 4 1, 3, 1)] 114 [(4, .int (v4 + 1)), (0, .ref (b + v0)), (1, .int v1), (2, .int v2), (3, .int v3), (5, .int v5)] [] (by decide +kernel) rfl rfl ?_
      refine jGoto C 12 (by decide +kernel : decode cX11_mixed 114 = .ok (.goto (-102), 3)) rfl ?_
      refine jSub [1, 2, 3, 4, 0] rfl ?_
      exact hk12 v2 v3 (v4 + 1) S h
    · have h := it2 h c3
      refine jB C [(.aload_n 0, 1, 0), (.iload 4, 2, 0), (.iload 5, 2, 0)] 45 [(0, .ref (b + v0)), (1, .int v1), (2, .int v2), (3, .int v3), (4, .int v4), (5, .int v5)] [.int v5, .int v4, .ref (b + v0)] (by decide +kernel) rfl rfl ?_
      refine jcV_V C 48 (rest := []) (ok_X11_exchange t_v0 h) (by decide +kernel : decode cX11_mixed 45 = .ok (.invokevirtual 480, 3)) rfl wd_1679 wd_1681 wp_150 wd_12 wd_1682 ⟨rfl, rfl⟩ hd_X11_exchange ⟨Nat.le_of_ble_eq_true rfl, Nat.le_of_ble_eq_true rfl⟩ t_v0 kX11 (by decide) rfl rfl rfl (Nat.le_of_ble_eq_true rfl) ⟨Nat.zero_le _, Nat.zero_le _⟩ (fun S4 h => ?_)
      refine jB C [(.aload_n 0, 1, 0), (.aload_n 0, 1, 0)] 50 [(0, .ref (b + v0)), (1, .int v1), (2, .int v2), (3, .int v3), (4, .int v4), (5, .int v5)] [.ref (b + v0), .ref (b + v0)] (by decide +kernel) rfl rfl ?_
      obtain ⟨a5, e_a5, h⟩ := h
      refine jGetR C 53 (by decide +kernel : decode cX11_mixed 50 = .ok (.getfield 16, 3)) rfl t_v0 kX11 4 (by decide) rfl rfl (by decide) wd_1158 e_a5 rfl (fun t_a5 => ?_)
      refine jB C [(.bipush 7, 2, 7)] 55 [(0, .ref (b + v0)), (1, .int v1), (2, .int v2), (3, .int v3), (4, .int v4), (5, .int v5)] [.int 7, .ref (b + a5), .ref (b + v0)] (by decide +kernel) rfl rfl ?_
      obtain ⟨y6, h⟩ := h
      refine jIald C 56 (by decide +kernel : decode cX11_mixed 55 = .ok (.iaload, 1)) rfl t_a5 y6 ?_
      refine jcV_I C 59 (rest := []) (ok_X11_allSee t_v0 h) (by decide +kernel : decode cX11_mixed 56 = .ok (.invokevirtual 502, 3)) rfl wd_1728 wd_1730 wp_156 wd_12 wd_1731 ⟨rfl, rfl⟩ hd_X11_allSee ⟨Nat.le_of_ble_eq_true rfl, Nat.le_of_ble_eq_true rfl⟩ t_v0 kX11 (by decide) rfl rfl rfl (Nat.le_of_ble_eq_true rfl) ⟨Nat.zero_le _, Nat.zero_le _⟩ (fun r8 S7 h => ?_)
      refine jB C [(.istore 6, 2, 0), (.aload_n 0, 1, 0), (.iload 4, 2, 0), (.iload 5, 2, 0)] 66 [(6, .int r8), (0, .ref (b + v0)), (1, .int v1), (2, .int v2), (3, .int v3), (4, .int v4), (5, .int v5)] [.int v5, .int v4, .ref (b + v0)] (by decide +kernel) rfl rfl ?_
      refine jcV_V C 69 (rest := []) (ok_X11_exchange t_v0 h) (by decide +kernel : decode cX11_mixed 66 = .ok (.invokevirtual 480, 3)) rfl wd_1679 wd_1681 wp_150 wd_12 wd_1682 ⟨rfl, rfl⟩ hd_X11_exchange ⟨Nat.le_of_ble_eq_true rfl, Nat.le_of_ble_eq_true rfl⟩ t_v0 kX11 (by decide) rfl rfl rfl (Nat.le_of_ble_eq_true rfl) ⟨Nat.zero_le _, Nat.zero_le _⟩ (fun S9 h => ?_)
      refine jB C [(.iload 6, 2, 0)] 71 [(6, .int r8), (0, .ref (b + v0)), (1, .int v1), (2, .int v2), (3, .int v3), (4, .int v4), (5, .int v5)] [.int r8] (by decide +kernel) rfl rfl ?_
      refine jIf_eq C 74 90 (by decide +kernel : decode cX11_mixed 71 = .ok (.ifCond .eq 19, 3)) rfl rfl (fun c10 => ?_) (fun c10 => ?_)
      · have h := it1 h c10
        refine jSub [1, 2, 3, 4, 5, 6, 0] rfl ?_
        exact j_X11_mixed_90 C hE t_v0 hk12 ih h
      · have h := it2 h c10
        refine jB C [(.iload_n 2, 1, 0), (.iload_n 1, 1, 0)] 76 [(6, .int r8), (0, .ref (b + v0)), (1, .int v1), (2, .int v2), (3, .int v3), (4, .int v4), (5, .int v5)] [.int v1, .int v2] (by decide +kernel) rfl rfl ?_
        refine jIcmp_ne C 79 90 (by decide +kernel : decode cX11_mixed 76 = .ok (.if_icmp .ne 14, 3)) rfl rfl (fun c11 => ?_) (fun c11 => ?_)
        · have h := it2 h c11
          refine jSub [1, 2, 3, 4, 5, 6, 0] rfl ?_
          exact j_X11_mixed_90 C hE t_v0 hk12 ih h
        · have h := it1 h c11
          refine jB C [(.bipush 10, 2, 10), (.iload 4, 2, 0), (.imul, 1, 0), (.iload 5, 2, 0), (.iadd, 1, 0)] 87 [(6, .int r8), (0, .ref (b + v0)), (1, .int v1), (2, .int v2), (3, .int v3), (4, .int v4), (5, .int v5)] [.int ((10 * v4) + v5)] (by decide +kernel) rfl rfl ?_
          refine jGoto C 91 (by decide +kernel : decode cX11_mixed 87 = .ok (.goto 4, 3)) rfl ?_
          refine jSub [1, 2, 3, 5, 6, 0] rfl ?_
          exact j_X11_mixed_91 C hE t_v0 hk12 ih h
theorem j_X11_mixed_29 {p : Program} {l : Launch} {e : Env} {s : State} {m : MethodId} {args : Array Value} {below : List Frame} {meth : Method} {c : Code} {b : Nat} {D : va_G} {cy : Nat → ClassId} {G : Gm} {k12 : Int32 → Int32 → Int32 → St → Prop} {v0 : Nat} {v1 : Int32} {v4 : Int32} {v2 : Int32} {v3 : Int32} {v5 : Int32} {S : St} {Q : Int32 → St → Prop} (C : CX p s m args meth c b D cy cX11_mixed RX11 7 (some .int)) (hE : s.heap.size + 0 ≤ b + G.2.2) (t_v0 : ok G 10 v0) (hk12 : ∀ v2' v3' v4' S, k12 v2' v3' v4' S → J p l e rm_X11_mixed s m args below meth c b D cy 7 (zI b D cy below args s G Q) 0 0 G S 12 [(0, .ref (b + v0)), (1, .int v1), (2, .int (v2')), (3, .int (v3')), (4, .int (v4'))] []) (h : f_X11_mixed_29 G k12 v0 v1 v4 Q v2 v3 v5 S) : J p l e rm_X11_mixed s m args below meth c b D cy 7 (zI b D cy below args s G Q) 0 0 G S 29 [(0, .ref (b + v0)), (1, .int v1), (2, .int v2), (3, .int v3), (4, .int v4), (5, .int v5)] [] := by
  obtain ⟨k, h⟩ := h
  exact j_X11_mixed_29_n C hE t_v0 hk12 k v2 v3 v5 S h
set_option maxHeartbeats 4000000 in
set_option maxRecDepth 100000 in
theorem j_X11_mixed_12_n {p : Program} {l : Launch} {e : Env} {s : State} {m : MethodId} {args : Array Value} {below : List Frame} {meth : Method} {c : Code} {b : Nat} {D : va_G} {cy : Nat → ClassId} {G : Gm} {v0 : Nat} {v1 : Int32} {Q : Int32 → St → Prop} (C : CX p s m args meth c b D cy cX11_mixed RX11 7 (some .int)) (hE : s.heap.size + 0 ≤ b + G.2.2) (t_v0 : ok G 10 v0) : ∀ k (v2 : Int32) (v3 : Int32) (v4 : Int32) S, f_X11_mixed_12_n G v0 v1 Q k v2 v3 v4 S → J p l e rm_X11_mixed s m args below meth c b D cy 7 (zI b D cy below args s G Q) 0 0 G S 12 [(0, .ref (b + v0)), (1, .int v1), (2, .int v2), (3, .int v3), (4, .int v4)] [] := by
  intro k
  induction k with
  | zero => intro v2 v3 v4 S h; exact h.elim
  | succ k ih =>
    intro v2 v3 v4 S h
    unfold f_X11_mixed_12_n at h
    refine jB C [(.iload 4, 2, 0), (.aload_n 0, 1, 0)] 15 [(0, .ref (b + v0)), (1, .int v1), (2, .int v2), (3, .int v3), (4, .int v4)] [.ref (b + v0), .int v4] (by decide +kernel) rfl rfl ?_
    obtain ⟨a1, e_a1, h⟩ := h
    refine jGetR C 18 (by decide +kernel : decode cX11_mixed 15 = .ok (.getfield 16, 3)) rfl t_v0 kX11 4 (by decide) rfl rfl (by decide) wd_1158 e_a1 rfl (fun t_a1 => ?_)
    refine jB C [(.iconst 0, 1, 0)] 19 [(0, .ref (b + v0)), (1, .int v1), (2, .int v2), (3, .int v3), (4, .int v4)] [.int 0, .ref (b + a1), .int v4] (by decide +kernel) rfl rfl ?_
    obtain ⟨y2, h⟩ := h
    refine jIald C 20 (by decide +kernel : decode cX11_mixed 19 = .ok (.iaload, 1)) rfl t_a1 y2 ?_
    refine jIcmp_ge C 23 117 (by decide +kernel : decode cX11_mixed 20 = .ok (.if_icmp .ge 97, 3)) rfl rfl (fun c3 => ?_) (fun c3 => ?_)
    · have h := it1 h c3
      refine jB C [(.iload_n 1, 1, 0), (.iconst (-1), 1, (-1))] 119 [(0, .ref (b + v0)), (1, .int v1), (2, .int v2), (3, .int v3), (4, .int v4)] [.int (-1), .int v1] (by decide +kernel) rfl rfl ?_
      refine jIcmp_ne C 122 126 (by decide +kernel : decode cX11_mixed 119 = .ok (.if_icmp .ne 7, 3)) rfl rfl (fun c4 => ?_) (fun c4 => ?_)
      · have h := it2 h c4
        refine jB C [(.iload_n 3, 1, 0)] 127 [(0, .ref (b + v0)), (1, .int v1), (2, .int v2), (3, .int v3), (4, .int v4)] [.int v3] (by decide +kernel) rfl rfl ?_
        exact jRetI C (by decide +kernel : decode cX11_mixed 127 = .ok (.ireturn, 1)) (Nat.le_refl _) (Nat.le_refl _) ⟨rfl, h⟩
      · have h := it1 h c4
        refine jB C [(.iload_n 2, 1, 0)] 123 [(0, .ref (b + v0)), (1, .int v1), (2, .int v2), (3, .int v3), (4, .int v4)] [.int v2] (by decide +kernel) rfl rfl ?_
        refine jGoto C 127 (by decide +kernel : decode cX11_mixed 123 = .ok (.goto 4, 3)) rfl ?_
        exact jRetI C (by decide +kernel : decode cX11_mixed 127 = .ok (.ireturn, 1)) (Nat.le_refl _) (Nat.le_refl _) ⟨rfl, h⟩
    · have h := it2 h c3
      refine jB C [(.iload 4, 2, 0), (.iconst 1, 1, 1), (.iadd, 1, 0)] 27 [(0, .ref (b + v0)), (1, .int v1), (2, .int v2), (3, .int v3), (4, .int v4)] [.int (v4 + 1)] (by decide +kernel) rfl rfl ?_
      refine jTopI (fun x5 e_x5 => ?_)
      have h := h x5 e_x5
      refine jB C [(.istore 5, 2, 0)] 29 [(5, .int x5), (0, .ref (b + v0)), (1, .int v1), (2, .int v2), (3, .int v3), (4, .int v4)] [] (by decide +kernel) rfl rfl ?_
      refine jSub [1, 2, 3, 4, 5, 0] rfl ?_
      exact j_X11_mixed_29 C hE t_v0 ih h
theorem j_X11_mixed_12 {p : Program} {l : Launch} {e : Env} {s : State} {m : MethodId} {args : Array Value} {below : List Frame} {meth : Method} {c : Code} {b : Nat} {D : va_G} {cy : Nat → ClassId} {G : Gm} {v0 : Nat} {v1 : Int32} {v2 : Int32} {v3 : Int32} {v4 : Int32} {S : St} {Q : Int32 → St → Prop} (C : CX p s m args meth c b D cy cX11_mixed RX11 7 (some .int)) (hE : s.heap.size + 0 ≤ b + G.2.2) (t_v0 : ok G 10 v0) (h : f_X11_mixed_12 G v0 v1 Q v2 v3 v4 S) : J p l e rm_X11_mixed s m args below meth c b D cy 7 (zI b D cy below args s G Q) 0 0 G S 12 [(0, .ref (b + v0)), (1, .int v1), (2, .int v2), (3, .int v3), (4, .int v4)] [] := by
  obtain ⟨k, h⟩ := h
  exact j_X11_mixed_12_n C hE t_v0 k v2 v3 v4 S h
set_option maxHeartbeats 4000000 in
set_option maxRecDepth 100000 in
theorem j_X11_mixed {p : Program} {l : Launch} {e : Env} {s : State} {m : MethodId} {args : Array Value} {below : List Frame} {meth : Method} {c : Code} {b : Nat} {D : va_G} {cy : Nat → ClassId} {G : Gm} {v0 : Nat} {v1 : Int32} {S : St} {Q : Int32 → St → Prop} (C : CX p s m args meth c b D cy cX11_mixed RX11 7 (some .int)) (hE : s.heap.size + 0 ≤ b + G.2.2) (t_v0 : ok G 10 v0) (h : f_X11_mixed G v0 v1 Q S) : J p l e rm_X11_mixed s m args below meth c b D cy 7 (zI b D cy below args s G Q) 0 0 G S 0 [(0, .ref (b + v0)), (1, .int v1)] [] := by
  unfold f_X11_mixed at h
  refine jB C [(.aload_n 0, 1, 0), (.iconst 0, 1, 0)] 2 [(0, .ref (b + v0)), (1, .int v1)] [.int 0, .ref (b + v0)] (by decide +kernel) rfl rfl ?_
  refine jPutI C 5 (by decide +kernel : decode cX11_mixed 2 = .ok (.putfield 165, 3)) rfl hE t_v0 kX11 0 (by decide) rfl rfl (by decide) rfl wd_1154 rfl rfl rfl ?_
  refine jTopS (fun S1 e_S1 => ?_)
  have h := h S1 e_S1
  refine jB C [(.iconst 0, 1, 0), (.istore_n 2, 1, 0), (.iconst (-1), 1, (-1)), (.istore_n 3, 1, 0), (.iconst 0, 1, 0), (.istore 4, 2, 0)] 12 [(4, .int 0), (3, .int (-1)), (2, .int 0), (0, .ref (b + v0)), (1, .int v1)] [] (by decide +kernel) rfl rfl ?_
  refine jSub [3, 4, 2, 1, 0] rfl ?_
  exact j_X11_mixed_12 C hE t_v0 h
theorem ok_X11_mixed {G : Gm} {v0 : Nat} {v1 : Int32} {S : St} {Q : Int32 → St → Prop}  (t_v0 : ok G 10 v0) (h : f_X11_mixed G v0 v1 Q S) : MT yX11_mixed cX11_mixed 7 (some .int) rm_X11_mixed 0 0 (fun b => [.ref (b + v0), .int v1]) G S (QI (fun r G1 S1 => G1 = G ∧ Q r S1)) := MT.ofJ (by decide +kernel) (fun b => [(0, .ref (b + v0)), (1, .int v1)]) (fun b => rfl) (fun b => Nat.le_of_ble_eq_true rfl) (fun l b D cy p e s m below meth c C hE hn => j_X11_mixed C hE t_v0 h)
theorem hd_X11_mixed : yX11_mixed.cls ≠ "java/lang/invoke/MethodHandle" ∧ yX11_mixed.cls ≠ "java/lang/invoke/VarHandle" ∧ (parseMethodDescriptor yX11_mixed.desc).map (fun d => d.parameters.length) = some 1 := by decide +kernel
abbrev rm_X11_months : Room := { frames := 9, cells := 0, slots := 0, locals := 212 }
set_option maxHeartbeats 4000000 in
set_option maxRecDepth 100000 in
theorem j_X11_months_197_n {p : Program} {l : Launch} {e : Env} {s : State} {m : MethodId} {args : Array Value} {below : List Frame} {meth : Method} {c : Code} {b : Nat} {D : va_G} {cy : Nat → ClassId} {G : Gm} {v0 : Nat} {v3 : Int32} {Q : Int32 → St → Prop} (C : CX p s m args meth c b D cy cX11_months RX11 9 (some .int)) (hE : s.heap.size + 0 ≤ b + G.2.2) (t_v0 : ok G 10 v0) : ∀ k (v4 : Int32) S, f_X11_months_197_n G v0 v3 Q k v4 S → J p l e rm_X11_months s m args below meth c b D cy 9 (zI b D cy below args s G Q) 0 0 G S 197 [(0, .ref (b + v0)), (3, .int v3), (4, .int v4)] [] := by
  intro k
  induction k with
  | zero => intro v4 S h; exact h.elim
  | succ k ih =>
    intro v4 S h
    unfold f_X11_months_197_n at h
    refine jB C [(.iload 4, 2, 0), (.bipush 58, 2, 58)] 201 [(0, .ref (b + v0)), (3, .int v3), (4, .int v4)] [.int 58, .int v4] (by decide +kernel) rfl rfl ?_
    refine jIcmp_ge C 204 226 (by decide +kernel : decode cX11_months 201 = .ok (.if_icmp .ge 25, 3)) rfl rfl (fun c1 => ?_) (fun c1 => ?_)
    · have h := it1 h c1
      refine jB C [(.aload_n 0, 1, 0), (.aload_n 0, 1, 0)] 228 [(0, .ref (b + v0)), (3, .int v3), (4, .int v4)] [.ref (b + v0), .ref (b + v0)] (by decide +kernel) rfl rfl ?_
      obtain ⟨a2, e_a2, h⟩ := h
      refine jGetR C 231 (by decide +kernel : decode cX11_months 228 = .ok (.getfield 16, 3)) rfl t_v0 kX11 4 (by decide) rfl rfl (by decide) wd_1158 e_a2 rfl (fun t_a2 => ?_)
      refine jB C [(.iconst 0, 1, 0)] 232 [(0, .ref (b + v0)), (3, .int v3), (4, .int v4)] [.int 0, .ref (b + a2), .ref (b + v0)] (by decide +kernel) rfl rfl ?_
      obtain ⟨y3, h⟩ := h
      refine jIald C 233 (by decide +kernel : decode cX11_months 232 = .ok (.iaload, 1)) rfl t_a2 y3 ?_
      refine jPutI C 236 (by decide +kernel : decode cX11_months 233 = .ok (.putfield 158, 3)) rfl hE t_v0 kX11 59 (by decide) rfl rfl (by decide) rfl wd_1213 rfl rfl rfl ?_
      refine jTopS (fun S4 e_S4 => ?_)
      have h := h S4 e_S4
      refine jB C [(.aload_n 0, 1, 0), (.bipush 16, 2, 16)] 239 [(0, .ref (b + v0)), (3, .int v3), (4, .int v4)] [.int 16, .ref (b + v0)] (by decide +kernel) rfl rfl ?_
      refine jcV_V C 242 (rest := []) (ok_X11_putBack t_v0 h) (by decide +kernel : decode cX11_months 239 = .ok (.invokevirtual 182, 3)) rfl wd_1344 wd_1346 wp_100 wd_12 wd_1347 ⟨rfl, rfl⟩ hd_X11_putBack ⟨Nat.le_of_ble_eq_true rfl, Nat.le_of_ble_eq_true rfl⟩ t_v0 kX11 (by decide) rfl rfl rfl (Nat.le_of_ble_eq_true rfl) ⟨Nat.zero_le _, Nat.zero_le _⟩ (fun S5 h => ?_)
      refine jB C [(.aload_n 0, 1, 0), (.iload_n 3, 1, 0)] 244 [(0, .ref (b + v0)), (3, .int v3), (4, .int v4)] [.int v3, .ref (b + v0)] (by decide +kernel) rfl rfl ?_
      refine jcV_I C 247 (rest := []) (ok_X11_tell t_v0 h) (by decide +kernel : decode cX11_months 244 = .ok (.invokevirtual 174, 3)) rfl wd_1340 wd_1342 wp_99 wd_12 wd_1343 ⟨rfl, rfl⟩ hd_X11_tell ⟨Nat.le_of_ble_eq_true rfl, Nat.le_of_ble_eq_true rfl⟩ t_v0 kX11 (by decide) rfl rfl rfl (Nat.le_of_ble_eq_true rfl) ⟨Nat.zero_le _, Nat.zero_le _⟩ (fun r7 S6 h => ?_)
      exact jRetI C (by decide +kernel : decode cX11_months 247 = .ok (.ireturn, 1)) (Nat.le_refl _) (Nat.le_refl _) ⟨rfl, h⟩
    · have h := it2 h c1
      refine jB C [(.aload_n 0, 1, 0)] 205 [(0, .ref (b + v0)), (3, .int v3), (4, .int v4)] [.ref (b + v0)] (by decide +kernel) rfl rfl ?_
      obtain ⟨a8, e_a8, h⟩ := h
      refine jGetR C 208 (by decide +kernel : decode cX11_months 205 = .ok (.getfield 155, 3)) rfl t_v0 kX11 58 (by decide) rfl rfl (by decide) wd_1212 e_a8 rfl (fun t_a8 => ?_)
      refine jB C [(.iload 4, 2, 0), (.aload_n 0, 1, 0)] 211 [(0, .ref (b + v0)), (3, .int v3), (4, .int v4)] [.ref (b + v0), .int v4, .ref (b + a8)] (by decide +kernel) rfl rfl ?_
      obtain ⟨a9, e_a9, h⟩ := h
      refine jGetR C 214 (by decide +kernel : decode cX11_months 211 = .ok (.getfield 16, 3)) rfl t_v0 kX11 4 (by decide) rfl rfl (by decide) wd_1158 e_a9 rfl (fun t_a9 => ?_)
      refine jB C [(.iconst 4, 1, 4), (.iload 4, 2, 0), (.iadd, 1, 0)] 218 [(0, .ref (b + v0)), (3, .int v3), (4, .int v4)] [.int (4 + v4), .ref (b + a9), .int v4, .ref (b + a8)] (by decide +kernel) rfl rfl ?_
      obtain ⟨y10, h⟩ := h
      refine jIald C 219 (by decide +kernel : decode cX11_months 218 = .ok (.iaload, 1)) rfl t_a9 y10 ?_
      obtain ⟨y11, h⟩ := h
      refine jIast C 220 (by decide +kernel : decode cX11_months 219 = .ok (.iastore, 1)) rfl hE t_a8 y11 ?_
      refine jTopS (fun S12 e_S12 => ?_)
      have h := h S12 e_S12
      refine jB C [(.iinc 4 1, 3, 1)] 223 [(4, .int (v4 + 1)), (0, .ref (b + v0)), (3, .int v3)] [] (by decide +kernel) rfl rfl ?_
      refine jGoto C 197 (by decide +kernel : decode cX11_months 223 = .ok (.goto (-26), 3)) rfl ?_
      refine jSub [1, 2, 0] rfl ?_
      exact ih (v4 + 1) S12 h
theorem j_X11_months_197 {p : Program} {l : Launch} {e : Env} {s : State} {m : MethodId} {args : Array Value} {below : List Frame} {meth : Method} {c : Code} {b : Nat} {D : va_G} {cy : Nat → ClassId} {G : Gm} {v0 : Nat} {v3 : Int32} {v4 : Int32} {S : St} {Q : Int32 → St → Prop} (C : CX p s m args meth c b D cy cX11_months RX11 9 (some .int)) (hE : s.heap.size + 0 ≤ b + G.2.2) (t_v0 : ok G 10 v0) (h : f_X11_months_197 G v0 v3 Q v4 S) : J p l e rm_X11_months s m args below meth c b D cy 9 (zI b D cy below args s G Q) 0 0 G S 197 [(0, .ref (b + v0)), (3, .int v3), (4, .int v4)] [] := by
  obtain ⟨k, h⟩ := h
  exact j_X11_months_197_n C hE t_v0 k v4 S h
set_option maxHeartbeats 4000000 in
set_option maxRecDepth 100000 in
theorem j_X11_months_184 {p : Program} {l : Launch} {e : Env} {s : State} {m : MethodId} {args : Array Value} {below : List Frame} {meth : Method} {c : Code} {b : Nat} {D : va_G} {cy : Nat → ClassId} {G : Gm} {k68 : Int32 → Int32 → St → Prop} {v0 : Nat} {v2 : Int32} {v3 : Int32} {v4 : Int32} {S : St} {Q : Int32 → St → Prop} (C : CX p s m args meth c b D cy cX11_months RX11 9 (some .int)) (hE : s.heap.size + 0 ≤ b + G.2.2) (t_v0 : ok G 10 v0) (hk68 : ∀ v3' v4' S, k68 v3' v4' S → J p l e rm_X11_months s m args below meth c b D cy 9 (zI b D cy below args s G Q) 0 0 G S 68 [(0, .ref (b + v0)), (2, .int v2), (3, .int (v3')), (4, .int (v4'))] []) (h : f_X11_months_184 G k68 v0 v2 v3 v4 Q S) : J p l e rm_X11_months s m args below meth c b D cy 9 (zI b D cy below args s G Q) 0 0 G S 184 [(0, .ref (b + v0)), (2, .int v2), (3, .int v3), (4, .int v4)] [] := by
  unfold f_X11_months_184 at h
  refine jB C [(.aload_n 0, 1, 0)] 185 [(0, .ref (b + v0)), (2, .int v2), (3, .int v3), (4, .int v4)] [.ref (b + v0)] (by decide +kernel) rfl rfl ?_
  refine jcV_V C 188 (rest := []) (ok_X11_passIt t_v0 h) (by decide +kernel : decode cX11_months 185 = .ok (.invokevirtual 489, 3)) rfl wd_1699 wd_1701 wp_153 wd_12 wd_1702 ⟨rfl, rfl⟩ hd_X11_passIt ⟨Nat.le_of_ble_eq_true rfl, Nat.le_of_ble_eq_true rfl⟩ t_v0 kX11 (by decide) rfl rfl rfl (Nat.le_of_ble_eq_true rfl) ⟨Nat.zero_le _, Nat.zero_le _⟩ (fun S1 h => ?_)
  refine jB C [(.iinc 4 1, 3, 1)] 191 [(4, .int (v4 + 1)), (0, .ref (b + v0)), (2, .int v2), (3, .int v3)] [] (by decide +kernel) rfl rfl ?_
  refine jGoto C 68 (by decide +kernel : decode cX11_months 191 = .ok (.goto (-123), 3)) rfl ?_
  refine jSub [1, 2, 3, 0] rfl ?_
  exact hk68 v3 (v4 + 1) S1 h
set_option maxHeartbeats 4000000 in
set_option maxRecDepth 100000 in
theorem j_X11_months_153 {p : Program} {l : Launch} {e : Env} {s : State} {m : MethodId} {args : Array Value} {below : List Frame} {meth : Method} {c : Code} {b : Nat} {D : va_G} {cy : Nat → ClassId} {G : Gm} {k68 : Int32 → Int32 → St → Prop} {v0 : Nat} {v2 : Int32} {v3 : Int32} {v4 : Int32} {u0 : Int32} {u1 : Int32} {u2 : Int32} {u3 : Nat} {S : St} {Q : Int32 → St → Prop} (C : CX p s m args meth c b D cy cX11_months RX11 9 (some .int)) (hE : s.heap.size + 0 ≤ b + G.2.2) (t_v0 : ok G 10 v0) (t_u3 : ok G 11 u3) (hk68 : ∀ v3' v4' S, k68 v3' v4' S → J p l e rm_X11_months s m args below meth c b D cy 9 (zI b D cy below args s G Q) 0 0 G S 68 [(0, .ref (b + v0)), (2, .int v2), (3, .int (v3')), (4, .int (v4'))] []) (h : f_X11_months_153 G k68 v0 v2 v3 v4 u0 u1 u2 u3 Q S) : J p l e rm_X11_months s m args below meth c b D cy 9 (zI b D cy below args s G Q) 0 0 G S 153 [(0, .ref (b + v0)), (2, .int v2), (3, .int v3), (4, .int v4)] [.int u0, .int u1, .int u2, .ref (b + u3)] := by
  unfold f_X11_months_153 at h
  refine jB C [(.iadd, 1, 0), (.i2l, 1, 0), (.iconst 0, 1, 0), (.bipush 8, 2, 8)] 158 [(0, .ref (b + v0)), (2, .int v2), (3, .int v3), (4, .int v4)] [.int 8, .int 0, .long ((u1 + u0).toInt64), .int u2, .ref (b + u3)] (by decide +kernel) rfl rfl ?_
  refine jcS_I C 161 (rest := [.int u2, .ref (b + u3)]) (ok_X11_within h) (by decide +kernel : decode cX11_months 158 = .ok (.invokestatic 458, 3)) rfl wd_1427 wd_1428 wd_12 wd_1429 ⟨rfl, rfl⟩ hd_X11_within ⟨Nat.le_of_ble_eq_true rfl, Nat.le_of_ble_eq_true rfl⟩ rfl rfl (Nat.le_of_ble_eq_true rfl) ⟨Nat.zero_le _, Nat.zero_le _⟩ (fun r2 S1 h => ?_)
  obtain ⟨y3, h⟩ := h
  refine jIast C 162 (by decide +kernel : decode cX11_months 161 = .ok (.iastore, 1)) rfl hE t_u3 y3 ?_
  refine jTopS (fun S4 e_S4 => ?_)
  have h := h S4 e_S4
  refine jGoto C 184 (by decide +kernel : decode cX11_months 162 = .ok (.goto 22, 3)) rfl ?_
  refine jSub [0, 1, 2, 3] rfl ?_
  exact j_X11_months_184 C hE t_v0 hk68 h
set_option maxHeartbeats 4000000 in
set_option maxRecDepth 100000 in
theorem j_X11_months_68_n {p : Program} {l : Launch} {e : Env} {s : State} {m : MethodId} {args : Array Value} {below : List Frame} {meth : Method} {c : Code} {b : Nat} {D : va_G} {cy : Nat → ClassId} {G : Gm} {v0 : Nat} {v2 : Int32} {Q : Int32 → St → Prop} (C : CX p s m args meth c b D cy cX11_months RX11 9 (some .int)) (hE : s.heap.size + 0 ≤ b + G.2.2) (t_v0 : ok G 10 v0) : ∀ k (v3 : Int32) (v4 : Int32) S, f_X11_months_68_n G v0 v2 Q k v3 v4 S → J p l e rm_X11_months s m args below meth c b D cy 9 (zI b D cy below args s G Q) 0 0 G S 68 [(0, .ref (b + v0)), (2, .int v2), (3, .int v3), (4, .int v4)] [] := by
  intro k
  induction k with
  | zero => intro v3 v4 S h; exact h.elim
  | succ k ih =>
    intro v3 v4 S h
    unfold f_X11_months_68_n at h
    refine jB C [(.iload 4, 2, 0), (.iload_n 2, 1, 0)] 71 [(0, .ref (b + v0)), (2, .int v2), (3, .int v3), (4, .int v4)] [.int v2, .int v4] (by decide +kernel) rfl rfl ?_
    refine jIcmp_ge C 74 194 (by decide +kernel : decode cX11_months 71 = .ok (.if_icmp .ge 123, 3)) rfl rfl (fun c1 => ?_) (fun c1 => ?_)
    · have h := it1 h c1
      refine jB C [(.iconst 0, 1, 0), (.istore 4, 2, 0)] 197 [(4, .int 0), (0, .ref (b + v0)), (2, .int v2), (3, .int v3)] [] (by decide +kernel) rfl rfl ?_
      refine jSub [1, 3, 0] rfl ?_
      exact j_X11_months_197 C hE t_v0 h
    · have h := it2 h c1
      refine jB C [(.aload_n 0, 1, 0)] 75 [(0, .ref (b + v0)), (2, .int v2), (3, .int v3), (4, .int v4)] [.ref (b + v0)] (by decide +kernel) rfl rfl ?_
      obtain ⟨a2, e_a2, h⟩ := h
      refine jGetR C 78 (by decide +kernel : decode cX11_months 75 = .ok (.getfield 16, 3)) rfl t_v0 kX11 4 (by decide) rfl rfl (by decide) wd_1158 e_a2 rfl (fun t_a2 => ?_)
      refine jB C [(.iconst 4, 1, 4)] 79 [(0, .ref (b + v0)), (2, .int v2), (3, .int v3), (4, .int v4)] [.int 4, .ref (b + a2)] (by decide +kernel) rfl rfl ?_
      obtain ⟨y3, h⟩ := h
      refine jIald C 80 (by decide +kernel : decode cX11_months 79 = .ok (.iaload, 1)) rfl t_a2 y3 ?_
      refine jB C [(.sipush 999, 3, 999)] 83 [(0, .ref (b + v0)), (2, .int v2), (3, .int v3), (4, .int v4)] [.int 999, .int (S.1 a2 (4 : Int32).toNatClampNeg)] (by decide +kernel) rfl rfl ?_
      refine jIcmp_ge C 86 194 (by decide +kernel : decode cX11_months 83 = .ok (.if_icmp .ge 111, 3)) rfl rfl (fun c4 => ?_) (fun c4 => ?_)
      · have h := it1 h c4
        refine jB C [(.iconst 0, 1, 0), (.istore 4, 2, 0)] 197 [(4, .int 0), (0, .ref (b + v0)), (2, .int v2), (3, .int v3)] [] (by decide +kernel) rfl rfl ?_
        refine jSub [1, 3, 0] rfl ?_
        exact j_X11_months_197 C hE t_v0 h
      · have h := it2 h c4
        refine jB C [(.aload_n 0, 1, 0), (.aload_n 0, 1, 0)] 88 [(0, .ref (b + v0)), (2, .int v2), (3, .int v3), (4, .int v4)] [.ref (b + v0), .ref (b + v0)] (by decide +kernel) rfl rfl ?_
        obtain ⟨a5, e_a5, h⟩ := h
        refine jGetR C 91 (by decide +kernel : decode cX11_months 88 = .ok (.getfield 16, 3)) rfl t_v0 kX11 4 (by decide) rfl rfl (by decide) wd_1158 e_a5 rfl (fun t_a5 => ?_)
        refine jB C [(.iconst 0, 1, 0)] 92 [(0, .ref (b + v0)), (2, .int v2), (3, .int v3), (4, .int v4)] [.int 0, .ref (b + a5), .ref (b + v0)] (by decide +kernel) rfl rfl ?_
        obtain ⟨y6, h⟩ := h
        refine jIald C 93 (by decide +kernel : decode cX11_months 92 = .ok (.iaload, 1)) rfl t_a5 y6 ?_
        refine jcV_I C 96 (rest := []) (ok_X11_draw t_v0 h) (by decide +kernel : decode cX11_months 93 = .ok (.invokevirtual 568, 3)) rfl wd_1830 wd_1832 wp_168 wd_12 wd_1833 ⟨rfl, rfl⟩ hd_X11_draw ⟨Nat.le_of_ble_eq_true rfl, Nat.le_of_ble_eq_true rfl⟩ t_v0 kX11 (by decide) rfl rfl rfl (Nat.le_of_ble_eq_true rfl) ⟨Nat.zero_le _, Nat.zero_le _⟩ (fun r8 S7 h => ?_)
        refine jB C [(.istore 5, 2, 0), (.aload_n 0, 1, 0), (.iconst 4, 1, 4)] 100 [(5, .int r8), (0, .ref (b + v0)), (2, .int v2), (3, .int v3), (4, .int v4)] [.int 4, .ref (b + v0)] (by decide +kernel) rfl rfl ?_
        refine jcV_I C 103 (rest := []) (ok_X11_draw t_v0 h) (by decide +kernel : decode cX11_months 100 = .ok (.invokevirtual 568, 3)) rfl wd_1830 wd_1832 wp_168 wd_12 wd_1833 ⟨rfl, rfl⟩ hd_X11_draw ⟨Nat.le_of_ble_eq_true rfl, Nat.le_of_ble_eq_true rfl⟩ t_v0 kX11 (by decide) rfl rfl rfl (Nat.le_of_ble_eq_true rfl) ⟨Nat.zero_le _, Nat.zero_le _⟩ (fun r10 S9 h => ?_)
        refine jB C [(.istore 6, 2, 0), (.aload_n 0, 1, 0), (.iconst 3, 1, 3)] 107 [(6, .int r10), (5, .int r8), (0, .ref (b + v0)), (2, .int v2), (3, .int v3), (4, .int v4)] [.int 3, .ref (b + v0)] (by decide +kernel) rfl rfl ?_
        refine jcV_I C 110 (rest := []) (ok_X11_draw t_v0 h) (by decide +kernel : decode cX11_months 107 = .ok (.invokevirtual 568, 3)) rfl wd_1830 wd_1832 wp_168 wd_12 wd_1833 ⟨rfl, rfl⟩ hd_X11_draw ⟨Nat.le_of_ble_eq_true rfl, Nat.le_of_ble_eq_true rfl⟩ t_v0 kX11 (by decide) rfl rfl rfl (Nat.le_of_ble_eq_true rfl) ⟨Nat.zero_le _, Nat.zero_le _⟩ (fun r12 S11 h => ?_)
        refine jB C [(.istore 7, 2, 0), (.bipush 8, 2, 8), (.iconst 4, 1, 4), (.iload 5, 2, 0), (.imul, 1, 0), (.iadd, 1, 0), (.iload 6, 2, 0), (.iadd, 1, 0)] 122 [(7, .int r12), (6, .int r10), (5, .int r8), (0, .ref (b + v0)), (2, .int v2), (3, .int v3), (4, .int v4)] [.int ((8 + (4 * r8)) + r10)] (by decide +kernel) rfl rfl ?_
        refine jTopI (fun x13 e_x13 => ?_)
        have h := h x13 e_x13
        refine jB C [(.istore 8, 2, 0), (.iload 7, 2, 0), (.iconst 1, 1, 1)] 127 [(8, .int x13), (7, .int r12), (6, .int r10), (5, .int r8), (0, .ref (b + v0)), (2, .int v2), (3, .int v3), (4, .int v4)] [.int 1, .int r12] (by decide +kernel) rfl rfl ?_
        refine jIcmp_eq C 130 165 (by decide +kernel : decode cX11_months 127 = .ok (.if_icmp .eq 38, 3)) rfl rfl (fun c14 => ?_) (fun c14 => ?_)
        · have h := it1 h c14
          refine jB C [(.aload_n 0, 1, 0), (.iload 5, 2, 0)] 168 [(8, .int x13), (7, .int r12), (6, .int r10), (5, .int r8), (0, .ref (b + v0)), (2, .int v2), (3, .int v3), (4, .int v4)] [.int r8, .ref (b + v0)] (by decide +kernel) rfl rfl ?_
          refine jcV_I C 171 (rest := []) (ok_X11_isBarred t_v0 h) (by decide +kernel : decode cX11_months 168 = .ok (.invokevirtual 221, 3)) rfl wd_1430 wd_1432 wp_113 wd_12 wd_1433 ⟨rfl, rfl⟩ hd_X11_isBarred ⟨Nat.le_of_ble_eq_true rfl, Nat.le_of_ble_eq_true rfl⟩ t_v0 kX11 (by decide) rfl rfl rfl (Nat.le_of_ble_eq_true rfl) ⟨Nat.zero_le _, Nat.zero_le _⟩ (fun r16 S15 h => ?_)
          refine jIf_ne C 174 184 (by decide +kernel : decode cX11_months 171 = .ok (.ifCond .ne 13, 3)) rfl rfl (fun c17 => ?_) (fun c17 => ?_)
          · have h := it2 h c17
            refine jSub [4, 5, 6, 7] rfl ?_
            exact j_X11_months_184 C hE t_v0 ih h
          · have h := it1 h c17
            refine jB C [(.aload_n 0, 1, 0), (.iload 5, 2, 0)] 177 [(8, .int x13), (7, .int r12), (6, .int r10), (5, .int r8), (0, .ref (b + v0)), (2, .int v2), (3, .int v3), (4, .int v4)] [.int r8, .ref (b + v0)] (by decide +kernel) rfl rfl ?_
            refine jcV_I C 180 (rest := []) (ok_X11_grindIt t_v0 h) (by decide +kernel : decode cX11_months 177 = .ok (.invokevirtual 474, 3)) rfl wd_1663 wd_1665 wp_147 wd_12 wd_1666 ⟨rfl, rfl⟩ hd_X11_grindIt ⟨Nat.le_of_ble_eq_true rfl, Nat.le_of_ble_eq_true rfl⟩ t_v0 kX11 (by decide) rfl rfl rfl (Nat.le_of_ble_eq_true rfl) ⟨Nat.zero_le _, Nat.zero_le _⟩ (fun r19 S18 h => ?_)
            refine jB C [(.pop, 1, 0), (.iinc 3 1, 3, 1)] 184 [(3, .int (v3 + 1)), (8, .int x13), (7, .int r12), (6, .int r10), (5, .int r8), (0, .ref (b + v0)), (2, .int v2), (4, .int v4)] [] (by decide +kernel) rfl rfl ?_
            refine jSub [5, 6, 0, 7] rfl ?_
            exact j_X11_months_184 C hE t_v0 ih h
        · have h := it2 h c14
          refine jB C [(.aload_n 0, 1, 0)] 131 [(8, .int x13), (7, .int r12), (6, .int r10), (5, .int r8), (0, .ref (b + v0)), (2, .int v2), (3, .int v3), (4, .int v4)] [.ref (b + v0)] (by decide +kernel) rfl rfl ?_
          obtain ⟨a20, e_a20, h⟩ := h
          refine jGetR C 134 (by decide +kernel : decode cX11_months 131 = .ok (.getfield 16, 3)) rfl t_v0 kX11 4 (by decide) rfl rfl (by decide) wd_1158 e_a20 rfl (fun t_a20 => ?_)
          refine jB C [(.iload 8, 2, 0), (.aload_n 0, 1, 0)] 137 [(8, .int x13), (7, .int r12), (6, .int r10), (5, .int r8), (0, .ref (b + v0)), (2, .int v2), (3, .int v3), (4, .int v4)] [.ref (b + v0), .int x13, .ref (b + a20)] (by decide +kernel) rfl rfl ?_
          obtain ⟨a21, e_a21, h⟩ := h
          refine jGetR C 140 (by decide +kernel : decode cX11_months 137 = .ok (.getfield 16, 3)) rfl t_v0 kX11 4 (by decide) rfl rfl (by decide) wd_1158 e_a21 rfl (fun t_a21 => ?_)
          refine jB C [(.iload 8, 2, 0)] 142 [(8, .int x13), (7, .int r12), (6, .int r10), (5, .int r8), (0, .ref (b + v0)), (2, .int v2), (3, .int v3), (4, .int v4)] [.int x13, .ref (b + a21), .int x13, .ref (b + a20)] (by decide +kernel) rfl rfl ?_
          obtain ⟨y22, h⟩ := h
          refine jIald C 143 (by decide +kernel : decode cX11_months 142 = .ok (.iaload, 1)) rfl t_a21 y22 ?_
          refine jB C [(.iload 7, 2, 0)] 145 [(8, .int x13), (7, .int r12), (6, .int r10), (5, .int r8), (0, .ref (b + v0)), (2, .int v2), (3, .int v3), (4, .int v4)] [.int r12, .int (S11.1 a21 x13.toNatClampNeg), .int x13, .ref (b + a20)] (by decide +kernel) rfl rfl ?_
          refine jIf_ne C 148 152 (by decide +kernel : decode cX11_months 145 = .ok (.ifCond .ne 7, 3)) rfl rfl (fun c23 => ?_) (fun c23 => ?_)
          · rw [if_neg c23] at h
            refine jB C [(.iconst (-1), 1, (-1))] 153 [(8, .int x13), (7, .int r12), (6, .int r10), (5, .int r8), (0, .ref (b + v0)), (2, .int v2), (3, .int v3), (4, .int v4)] [.int (-1), .int (S11.1 a21 x13.toNatClampNeg), .int x13, .ref (b + a20)] (by decide +kernel) rfl rfl ?_
            refine jSub [4, 5, 6, 7] rfl ?_
            refine j_X11_months_153 C hE t_v0 t_a20 ih ?_
            revert h
            exact id
          · have h := it1 h c23
            refine jB C [(.iconst 1, 1, 1)] 149 [(8, .int x13), (7, .int r12), (6, .int r10), (5, .int r8), (0, .ref (b + v0)), (2, .int v2), (3, .int v3), (4, .int v4)] [.int 1, .int (S11.1 a21 x13.toNatClampNeg), .int x13, .ref (b + a20)] (by decide +kernel) rfl rfl ?_
            refine jGoto C 153 (by decide +kernel : decode cX11_months 149 = .ok (.goto 4, 3)) rfl ?_
            refine jSub [4, 5, 6, 7] rfl ?_
            exact j_X11_months_153 C hE t_v0 t_a20 ih h
theorem j_X11_months_68 {p : Program} {l : Launch} {e : Env} {s : State} {m : MethodId} {args : Array Value} {below : List Frame} {meth : Method} {c : Code} {b : Nat} {D : va_G} {cy : Nat → ClassId} {G : Gm} {v0 : Nat} {v2 : Int32} {v3 : Int32} {v4 : Int32} {S : St} {Q : Int32 → St → Prop} (C : CX p s m args meth c b D cy cX11_months RX11 9 (some .int)) (hE : s.heap.size + 0 ≤ b + G.2.2) (t_v0 : ok G 10 v0) (h : f_X11_months_68 G v0 v2 Q v3 v4 S) : J p l e rm_X11_months s m args below meth c b D cy 9 (zI b D cy below args s G Q) 0 0 G S 68 [(0, .ref (b + v0)), (2, .int v2), (3, .int v3), (4, .int v4)] [] := by
  obtain ⟨k, h⟩ := h
  exact j_X11_months_68_n C hE t_v0 k v3 v4 S h
set_option maxHeartbeats 4000000 in
set_option maxRecDepth 100000 in
theorem j_X11_months_29 {p : Program} {l : Launch} {e : Env} {s : State} {m : MethodId} {args : Array Value} {below : List Frame} {meth : Method} {c : Code} {b : Nat} {D : va_G} {cy : Nat → ClassId} {G : Gm} {v0 : Nat} {S : St} {Q : Int32 → St → Prop} (C : CX p s m args meth c b D cy cX11_months RX11 9 (some .int)) (hE : s.heap.size + 0 ≤ b + G.2.2) (t_v0 : ok G 10 v0) (h : f_X11_months_29 G v0 Q S) : J p l e rm_X11_months s m args below meth c b D cy 9 (zI b D cy below args s G Q) 0 0 G S 29 [(0, .ref (b + v0))] [] := by
  unfold f_X11_months_29 at h
  refine jB C [(.aload_n 0, 1, 0), (.iconst (-1), 1, (-1))] 31 [(0, .ref (b + v0))] [.int (-1), .ref (b + v0)] (by decide +kernel) rfl rfl ?_
  refine jcV_I C 34 (rest := []) (ok_X11_tell t_v0 h) (by decide +kernel : decode cX11_months 31 = .ok (.invokevirtual 174, 3)) rfl wd_1340 wd_1342 wp_99 wd_12 wd_1343 ⟨rfl, rfl⟩ hd_X11_tell ⟨Nat.le_of_ble_eq_true rfl, Nat.le_of_ble_eq_true rfl⟩ t_v0 kX11 (by decide) rfl rfl rfl (Nat.le_of_ble_eq_true rfl) ⟨Nat.zero_le _, Nat.zero_le _⟩ (fun r2 S1 h => ?_)
  exact jRetI C (by decide +kernel : decode cX11_months 34 = .ok (.ireturn, 1)) (Nat.le_refl _) (Nat.le_refl _) ⟨rfl, h⟩
set_option maxHeartbeats 4000000 in
set_option maxRecDepth 100000 in
theorem j_X11_months {p : Program} {l : Launch} {e : Env} {s : State} {m : MethodId} {args : Array Value} {below : List Frame} {meth : Method} {c : Code} {b : Nat} {D : va_G} {cy : Nat → ClassId} {G : Gm} {v0 : Nat} {v1 : Int32} {v2 : Int32} {S : St} {Q : Int32 → St → Prop} (C : CX p s m args meth c b D cy cX11_months RX11 9 (some .int)) (hE : s.heap.size + 0 ≤ b + G.2.2) (t_v0 : ok G 10 v0) (h : f_X11_months G v0 v1 v2 Q S) : J p l e rm_X11_months s m args below meth c b D cy 9 (zI b D cy below args s G Q) 0 0 G S 0 [(0, .ref (b + v0)), (1, .int v1), (2, .int v2)] [] := by
  unfold f_X11_months at h
  refine jB C [(.aload_n 0, 1, 0), (.iconst 0, 1, 0)] 2 [(0, .ref (b + v0)), (1, .int v1), (2, .int v2)] [.int 0, .ref (b + v0)] (by decide +kernel) rfl rfl ?_
  refine jPutI C 5 (by decide +kernel : decode cX11_months 2 = .ok (.putfield 165, 3)) rfl hE t_v0 kX11 0 (by decide) rfl rfl (by decide) rfl wd_1154 rfl rfl rfl ?_
  refine jTopS (fun S1 e_S1 => ?_)
  have h := h S1 e_S1
  refine jB C [(.iload_n 1, 1, 0), (.i2l, 1, 0), (.lconst 0, 1, 0)] 8 [(0, .ref (b + v0)), (1, .int v1), (2, .int v2)] [.long 0, .long v1.toInt64] (by decide +kernel) rfl rfl ?_
  refine jLdc2 C 11 (by decide +kernel : decode cX11_months 8 = .ok (.ldc2_w 300, 3)) rfl wd_1536 ?_
  refine jcS_I C 14 (rest := []) (ok_X11_in h) (by decide +kernel : decode cX11_months 11 = .ok (.invokestatic 185, 3)) rfl wd_1352 wd_1353 wd_12 wd_1354 ⟨rfl, rfl⟩ hd_X11_in ⟨Nat.le_of_ble_eq_true rfl, Nat.le_of_ble_eq_true rfl⟩ rfl rfl (Nat.le_of_ble_eq_true rfl) ⟨Nat.zero_le _, Nat.zero_le _⟩ (fun r3 S2 h => ?_)
  refine jIf_eq C 17 29 (by decide +kernel : decode cX11_months 14 = .ok (.ifCond .eq 15, 3)) rfl rfl (fun c4 => ?_) (fun c4 => ?_)
  · have h := it1 h c4
    refine jSub [0] rfl ?_
    exact j_X11_months_29 C hE t_v0 h
  · have h := it2 h c4
    refine jB C [(.iload_n 2, 1, 0), (.i2l, 1, 0), (.lconst 1, 1, 0)] 20 [(0, .ref (b + v0)), (1, .int v1), (2, .int v2)] [.long 1, .long v2.toInt64] (by decide +kernel) rfl rfl ?_
    refine jLdc2 C 23 (by decide +kernel : decode cX11_months 20 = .ok (.ldc2_w 522, 3)) rfl wd_1789 ?_
    refine jcS_I C 26 (rest := []) (ok_X11_in h) (by decide +kernel : decode cX11_months 23 = .ok (.invokestatic 185, 3)) rfl wd_1352 wd_1353 wd_12 wd_1354 ⟨rfl, rfl⟩ hd_X11_in ⟨Nat.le_of_ble_eq_true rfl, Nat.le_of_ble_eq_true rfl⟩ rfl rfl (Nat.le_of_ble_eq_true rfl) ⟨Nat.zero_le _, Nat.zero_le _⟩ (fun r6 S5 h => ?_)
    refine jIf_ne C 29 35 (by decide +kernel : decode cX11_months 26 = .ok (.ifCond .ne 9, 3)) rfl rfl (fun c7 => ?_) (fun c7 => ?_)
    · have h := it2 h c7
      refine jB C [(.aload_n 0, 1, 0)] 36 [(0, .ref (b + v0)), (1, .int v1), (2, .int v2)] [.ref (b + v0)] (by decide +kernel) rfl rfl ?_
      obtain ⟨a8, e_a8, h⟩ := h
      refine jGetR C 39 (by decide +kernel : decode cX11_months 36 = .ok (.getfield 16, 3)) rfl t_v0 kX11 4 (by decide) rfl rfl (by decide) wd_1158 e_a8 rfl (fun t_a8 => ?_)
      refine jB C [(.iconst 0, 1, 0)] 40 [(0, .ref (b + v0)), (1, .int v1), (2, .int v2)] [.int 0, .ref (b + a8)] (by decide +kernel) rfl rfl ?_
      obtain ⟨y9, h⟩ := h
      refine jIald C 41 (by decide +kernel : decode cX11_months 40 = .ok (.iaload, 1)) rfl t_a8 y9 ?_
      refine jIf_ne C 44 51 (by decide +kernel : decode cX11_months 41 = .ok (.ifCond .ne 10, 3)) rfl rfl (fun c10 => ?_) (fun c10 => ?_)
      · have h := it2 h c10
        refine jB C [(.aload_n 0, 1, 0), (.bipush 16, 2, 16)] 54 [(0, .ref (b + v0)), (1, .int v1), (2, .int v2)] [.int 16, .ref (b + v0)] (by decide +kernel) rfl rfl ?_
        refine jcV_V C 57 (rest := []) (ok_X11_keepAll t_v0 h) (by decide +kernel : decode cX11_months 54 = .ok (.invokevirtual 178, 3)) rfl wd_1651 wd_1653 wp_145 wd_12 wd_1654 ⟨rfl, rfl⟩ hd_X11_keepAll ⟨Nat.le_of_ble_eq_true rfl, Nat.le_of_ble_eq_true rfl⟩ t_v0 kX11 (by decide) rfl rfl rfl (Nat.le_of_ble_eq_true rfl) ⟨Nat.zero_le _, Nat.zero_le _⟩ (fun S11 h => ?_)
        refine jB C [(.aload_n 0, 1, 0), (.iload_n 1, 1, 0), (.i2l, 1, 0)] 60 [(0, .ref (b + v0)), (1, .int v1), (2, .int v2)] [.long v1.toInt64, .ref (b + v0)] (by decide +kernel) rfl rfl ?_
        refine jPutJ C 63 (by decide +kernel : decode cX11_months 60 = .ok (.putfield 559, 3)) rfl hE t_v0 kX11 57 (by decide) rfl rfl (by decide) rfl wd_1211 rfl rfl rfl ?_
        refine jTopS (fun S12 e_S12 => ?_)
        have h := h S12 e_S12
        refine jB C [(.iconst 0, 1, 0), (.istore_n 3, 1, 0), (.iconst 0, 1, 0), (.istore 4, 2, 0)] 68 [(4, .int 0), (3, .int 0), (0, .ref (b + v0)), (1, .int v1), (2, .int v2)] [] (by decide +kernel) rfl rfl ?_
        refine jSub [2, 4, 1, 0] rfl ?_
        exact j_X11_months_68 C hE t_v0 h
      · have h := it1 h c10
        refine jB C [(.aload_n 0, 1, 0), (.bipush (-3), 2, (-3))] 47 [(0, .ref (b + v0)), (1, .int v1), (2, .int v2)] [.int (-3), .ref (b + v0)] (by decide +kernel) rfl rfl ?_
        refine jcV_I C 50 (rest := []) (ok_X11_tell t_v0 h) (by decide +kernel : decode cX11_months 47 = .ok (.invokevirtual 174, 3)) rfl wd_1340 wd_1342 wp_99 wd_12 wd_1343 ⟨rfl, rfl⟩ hd_X11_tell ⟨Nat.le_of_ble_eq_true rfl, Nat.le_of_ble_eq_true rfl⟩ t_v0 kX11 (by decide) rfl rfl rfl (Nat.le_of_ble_eq_true rfl) ⟨Nat.zero_le _, Nat.zero_le _⟩ (fun r14 S13 h => ?_)
        exact jRetI C (by decide +kernel : decode cX11_months 50 = .ok (.ireturn, 1)) (Nat.le_refl _) (Nat.le_refl _) ⟨rfl, h⟩
    · have h := it1 h c7
      refine jSub [0] rfl ?_
      exact j_X11_months_29 C hE t_v0 h
theorem ok_X11_months {G : Gm} {v0 : Nat} {v1 : Int32} {v2 : Int32} {S : St} {Q : Int32 → St → Prop}  (t_v0 : ok G 10 v0) (h : f_X11_months G v0 v1 v2 Q S) : MT yX11_months cX11_months 9 (some .int) rm_X11_months 0 0 (fun b => [.ref (b + v0), .int v1, .int v2]) G S (QI (fun r G1 S1 => G1 = G ∧ Q r S1)) := MT.ofJ (by decide +kernel) (fun b => [(0, .ref (b + v0)), (1, .int v1), (2, .int v2)]) (fun b => rfl) (fun b => Nat.le_of_ble_eq_true rfl) (fun l b D cy p e s m below meth c C hE hn => j_X11_months C hE t_v0 h)
theorem hd_X11_months : yX11_months.cls ≠ "java/lang/invoke/MethodHandle" ∧ yX11_months.cls ≠ "java/lang/invoke/VarHandle" ∧ (parseMethodDescriptor yX11_months.desc).map (fun d => d.parameters.length) = some 2 := by decide +kernel
abbrev rm_X11_of : Room := { frames := 7, cells := 0, slots := 0, locals := 165 }
set_option maxHeartbeats 4000000 in
set_option maxRecDepth 100000 in
theorem j_X11_of {p : Program} {l : Launch} {e : Env} {s : State} {m : MethodId} {args : Array Value} {below : List Frame} {meth : Method} {c : Code} {b : Nat} {D : va_G} {cy : Nat → ClassId} {G : Gm} {v0 : Nat} {v1 : Int32} {v2 : Int32} {S : St} {Q : Int32 → St → Prop} (C : CX p s m args meth c b D cy cX11_of RX11 3 (some .int)) (hE : s.heap.size + 0 ≤ b + G.2.2) (t_v0 : ok G 10 v0) (h : f_X11_of G v0 v1 v2 Q S) : J p l e rm_X11_of s m args below meth c b D cy 3 (zI b D cy below args s G Q) 0 0 G S 0 [(0, .ref (b + v0)), (1, .int v1), (2, .int v2)] [] := by
  unfold f_X11_of at h
  refine jB C [(.aload_n 0, 1, 0), (.iconst 0, 1, 0)] 2 [(0, .ref (b + v0)), (1, .int v1), (2, .int v2)] [.int 0, .ref (b + v0)] (by decide +kernel) rfl rfl ?_
  refine jPutI C 5 (by decide +kernel : decode cX11_of 2 = .ok (.putfield 165, 3)) rfl hE t_v0 kX11 0 (by decide) rfl rfl (by decide) rfl wd_1154 rfl rfl rfl ?_
  refine jTopS (fun S1 e_S1 => ?_)
  have h := h S1 e_S1
  refine jB C [(.aload_n 0, 1, 0), (.iload_n 1, 1, 0)] 7 [(0, .ref (b + v0)), (1, .int v1), (2, .int v2)] [.int v1, .ref (b + v0)] (by decide +kernel) rfl rfl ?_
  refine jcV_I C 10 (rest := []) (ok_X11_isPerson t_v0 h) (by decide +kernel : decode cX11_of 7 = .ok (.invokevirtual 209, 3)) rfl wd_1376 wd_1378 wp_103 wd_12 wd_1379 ⟨rfl, rfl⟩ hd_X11_isPerson ⟨Nat.le_of_ble_eq_true rfl, Nat.le_of_ble_eq_true rfl⟩ t_v0 kX11 (by decide) rfl rfl rfl (Nat.le_of_ble_eq_true rfl) ⟨Nat.zero_le _, Nat.zero_le _⟩ (fun r3 S2 h => ?_)
  refine jIf_ne C 13 15 (by decide +kernel : decode cX11_of 10 = .ok (.ifCond .ne 5, 3)) rfl rfl (fun c4 => ?_) (fun c4 => ?_)
  · have h := it2 h c4
    refine jB C [(.iload_n 2, 1, 0), (.i2l, 1, 0), (.lconst 0, 1, 0)] 18 [(0, .ref (b + v0)), (1, .int v1), (2, .int v2)] [.long 0, .long v2.toInt64] (by decide +kernel) rfl rfl ?_
    refine jLdc2 C 21 (by decide +kernel : decode cX11_of 18 = .ok (.ldc2_w 192, 3)) rfl wd_1380 ?_
    refine jcS_I C 24 (rest := []) (ok_X11_in h) (by decide +kernel : decode cX11_of 21 = .ok (.invokestatic 185, 3)) rfl wd_1352 wd_1353 wd_12 wd_1354 ⟨rfl, rfl⟩ hd_X11_in ⟨Nat.le_of_ble_eq_true rfl, Nat.le_of_ble_eq_true rfl⟩ rfl rfl (Nat.le_of_ble_eq_true rfl) ⟨Nat.zero_le _, Nat.zero_le _⟩ (fun r6 S5 h => ?_)
    refine jIf_eq C 27 41 (by decide +kernel : decode cX11_of 24 = .ok (.ifCond .eq 17, 3)) rfl rfl (fun c7 => ?_) (fun c7 => ?_)
    · have h := it1 h c7
      refine jB C [(.iload_n 2, 1, 0), (.i2l, 1, 0)] 43 [(0, .ref (b + v0)), (1, .int v1), (2, .int v2)] [.long v2.toInt64] (by decide +kernel) rfl rfl ?_
      refine jLdc2 C 46 (by decide +kernel : decode cX11_of 43 = .ok (.ldc2_w 213, 3)) rfl wd_1381 ?_
      refine jLdc2 C 49 (by decide +kernel : decode cX11_of 46 = .ok (.ldc2_w 203, 3)) rfl wd_1371 ?_
      refine jcS_I C 52 (rest := []) (ok_X11_in h) (by decide +kernel : decode cX11_of 49 = .ok (.invokestatic 185, 3)) rfl wd_1352 wd_1353 wd_12 wd_1354 ⟨rfl, rfl⟩ hd_X11_in ⟨Nat.le_of_ble_eq_true rfl, Nat.le_of_ble_eq_true rfl⟩ rfl rfl (Nat.le_of_ble_eq_true rfl) ⟨Nat.zero_le _, Nat.zero_le _⟩ (fun r9 S8 h => ?_)
      refine jIf_eq C 55 86 (by decide +kernel : decode cX11_of 52 = .ok (.ifCond .eq 34, 3)) rfl rfl (fun c10 => ?_) (fun c10 => ?_)
      · have h := it1 h c10
        refine jB C [(.iload_n 2, 1, 0)] 87 [(0, .ref (b + v0)), (1, .int v1), (2, .int v2)] [.int v2] (by decide +kernel) rfl rfl ?_
        by_cases c24_0 : v2 = 4
        · have h := it1 h c24_0
          refine jTabIn C 136 4 (by decide +kernel : decode cX11_of 87 = .ok (.tableswitch 96 4 12 #[49, 96, 96, 96, 96, 55, 61, 72, 82], 49)) c24_0 ⟨rfl, rfl, rfl, rfl⟩ ?_
          refine jB C [(.aload_n 0, 1, 0), (.iload_n 1, 1, 0)] 138 [(0, .ref (b + v0)), (1, .int v1), (2, .int v2)] [.int v1, .ref (b + v0)] (by decide +kernel) rfl rfl ?_
          refine jcV_I C 141 (rest := []) (ok_X11_lensesOf t_v0 h) (by decide +kernel : decode cX11_of 138 = .ok (.invokevirtual 196, 3)) rfl wd_1382 wd_1384 wp_104 wd_12 wd_1385 ⟨rfl, rfl⟩ hd_X11_lensesOf ⟨Nat.le_of_ble_eq_true rfl, Nat.le_of_ble_eq_true rfl⟩ t_v0 kX11 (by decide) rfl rfl rfl (Nat.le_of_ble_eq_true rfl) ⟨Nat.zero_le _, Nat.zero_le _⟩ (fun r12 S11 h => ?_)
          exact jRetI C (by decide +kernel : decode cX11_of 141 = .ok (.ireturn, 1)) (Nat.le_refl _) (Nat.le_refl _) ⟨rfl, h⟩
        · have h := it2 h c24_0
          by_cases c24_1 : v2 = 5
          · have h := it1 h c24_1
            refine jTabIn C 183 5 (by decide +kernel : decode cX11_of 87 = .ok (.tableswitch 96 4 12 #[49, 96, 96, 96, 96, 55, 61, 72, 82], 49)) c24_1 ⟨rfl, rfl, rfl, rfl⟩ ?_
            refine jB C [(.iconst (-1), 1, (-1))] 184 [(0, .ref (b + v0)), (1, .int v1), (2, .int v2)] [.int (-1)] (by decide +kernel) rfl rfl ?_
            exact jRetI C (by decide +kernel : decode cX11_of 184 = .ok (.ireturn, 1)) (Nat.le_refl _) (Nat.le_refl _) ⟨rfl, h⟩
          · have h := it2 h c24_1
            by_cases c24_2 : v2 = 6
            · have h := it1 h c24_2
              refine jTabIn C 183 6 (by decide +kernel : decode cX11_of 87 = .ok (.tableswitch 96 4 12 #[49, 96, 96, 96, 96, 55, 61, 72, 82], 49)) c24_2 ⟨rfl, rfl, rfl, rfl⟩ ?_
              refine jB C [(.iconst (-1), 1, (-1))] 184 [(0, .ref (b + v0)), (1, .int v1), (2, .int v2)] [.int (-1)] (by decide +kernel) rfl rfl ?_
              exact jRetI C (by decide +kernel : decode cX11_of 184 = .ok (.ireturn, 1)) (Nat.le_refl _) (Nat.le_refl _) ⟨rfl, h⟩
            · have h := it2 h c24_2
              by_cases c24_3 : v2 = 7
              · have h := it1 h c24_3
                refine jTabIn C 183 7 (by decide +kernel : decode cX11_of 87 = .ok (.tableswitch 96 4 12 #[49, 96, 96, 96, 96, 55, 61, 72, 82], 49)) c24_3 ⟨rfl, rfl, rfl, rfl⟩ ?_
                refine jB C [(.iconst (-1), 1, (-1))] 184 [(0, .ref (b + v0)), (1, .int v1), (2, .int v2)] [.int (-1)] (by decide +kernel) rfl rfl ?_
                exact jRetI C (by decide +kernel : decode cX11_of 184 = .ok (.ireturn, 1)) (Nat.le_refl _) (Nat.le_refl _) ⟨rfl, h⟩
              · have h := it2 h c24_3
                by_cases c24_4 : v2 = 8
                · have h := it1 h c24_4
                  refine jTabIn C 183 8 (by decide +kernel : decode cX11_of 87 = .ok (.tableswitch 96 4 12 #[49, 96, 96, 96, 96, 55, 61, 72, 82], 49)) c24_4 ⟨rfl, rfl, rfl, rfl⟩ ?_
                  refine jB C [(.iconst (-1), 1, (-1))] 184 [(0, .ref (b + v0)), (1, .int v1), (2, .int v2)] [.int (-1)] (by decide +kernel) rfl rfl ?_
                  exact jRetI C (by decide +kernel : decode cX11_of 184 = .ok (.ireturn, 1)) (Nat.le_refl _) (Nat.le_refl _) ⟨rfl, h⟩
                · have h := it2 h c24_4
                  by_cases c24_5 : v2 = 9
                  · have h := it1 h c24_5
                    refine jTabIn C 142 9 (by decide +kernel : decode cX11_of 87 = .ok (.tableswitch 96 4 12 #[49, 96, 96, 96, 96, 55, 61, 72, 82], 49)) c24_5 ⟨rfl, rfl, rfl, rfl⟩ ?_
                    refine jB C [(.aload_n 0, 1, 0), (.iload_n 1, 1, 0)] 144 [(0, .ref (b + v0)), (1, .int v1), (2, .int v2)] [.int v1, .ref (b + v0)] (by decide +kernel) rfl rfl ?_
                    refine jcV_I C 147 (rest := []) (ok_X11_sightOf t_v0 h) (by decide +kernel : decode cX11_of 144 = .ok (.invokevirtual 215, 3)) rfl wd_1386 wd_1388 wp_105 wd_12 wd_1389 ⟨rfl, rfl⟩ hd_X11_sightOf ⟨Nat.le_of_ble_eq_true rfl, Nat.le_of_ble_eq_true rfl⟩ t_v0 kX11 (by decide) rfl rfl rfl (Nat.le_of_ble_eq_true rfl) ⟨Nat.zero_le _, Nat.zero_le _⟩ (fun r14 S13 h => ?_)
                    exact jRetI C (by decide +kernel : decode cX11_of 147 = .ok (.ireturn, 1)) (Nat.le_refl _) (Nat.le_refl _) ⟨rfl, h⟩
                  · have h := it2 h c24_5
                    by_cases c24_6 : v2 = 10
                    · have h := it1 h c24_6
                      refine jTabIn C 148 10 (by decide +kernel : decode cX11_of 87 = .ok (.tableswitch 96 4 12 #[49, 96, 96, 96, 96, 55, 61, 72, 82], 49)) c24_6 ⟨rfl, rfl, rfl, rfl⟩ ?_
                      refine jB C [(.aload_n 0, 1, 0), (.iload_n 1, 1, 0), (.aload_n 0, 1, 0), (.iload_n 1, 1, 0)] 152 [(0, .ref (b + v0)), (1, .int v1), (2, .int v2)] [.int v1, .ref (b + v0), .int v1, .ref (b + v0)] (by decide +kernel) rfl rfl ?_
                      refine jcV_I C 155 (rest := [.int v1, .ref (b + v0)]) (ok_X11_sightOf t_v0 h) (by decide +kernel : decode cX11_of 152 = .ok (.invokevirtual 215, 3)) rfl wd_1386 wd_1388 wp_105 wd_12 wd_1389 ⟨rfl, rfl⟩ hd_X11_sightOf ⟨Nat.le_of_ble_eq_true rfl, Nat.le_of_ble_eq_true rfl⟩ t_v0 kX11 (by decide) rfl rfl rfl (Nat.le_of_ble_eq_true rfl) ⟨Nat.zero_le _, Nat.zero_le _⟩ (fun r16 S15 h => ?_)
                      refine jcV_I C 158 (rest := []) (ok_X11_doesOf t_v0 h) (by decide +kernel : decode cX11_of 155 = .ok (.invokevirtual 218, 3)) rfl wd_1394 wd_1396 wp_107 wd_12 wd_1397 ⟨rfl, rfl⟩ hd_X11_doesOf ⟨Nat.le_of_ble_eq_true rfl, Nat.le_of_ble_eq_true rfl⟩ t_v0 kX11 (by decide) rfl rfl rfl (Nat.le_of_ble_eq_true rfl) ⟨Nat.zero_le _, Nat.zero_le _⟩ (fun r18 S17 h => ?_)
                      exact jRetI C (by decide +kernel : decode cX11_of 158 = .ok (.ireturn, 1)) (Nat.le_refl _) (Nat.le_refl _) ⟨rfl, h⟩
                    · have h := it2 h c24_6
                      by_cases c24_7 : v2 = 11
                      · have h := it1 h c24_7
                        refine jTabIn C 159 11 (by decide +kernel : decode cX11_of 87 = .ok (.tableswitch 96 4 12 #[49, 96, 96, 96, 96, 55, 61, 72, 82], 49)) c24_7 ⟨rfl, rfl, rfl, rfl⟩ ?_
                        refine jB C [(.aload_n 0, 1, 0)] 160 [(0, .ref (b + v0)), (1, .int v1), (2, .int v2)] [.ref (b + v0)] (by decide +kernel) rfl rfl ?_
                        obtain ⟨a19, e_a19, h⟩ := h
                        refine jGetR C 163 (by decide +kernel : decode cX11_of 160 = .ok (.getfield 16, 3)) rfl t_v0 kX11 4 (by decide) rfl rfl (by decide) wd_1158 e_a19 rfl (fun t_a19 => ?_)
                        refine jB C [(.bipush 62, 2, 62), (.iload_n 1, 1, 0), (.iadd, 1, 0)] 167 [(0, .ref (b + v0)), (1, .int v1), (2, .int v2)] [.int (62 + v1), .ref (b + a19)] (by decide +kernel) rfl rfl ?_
                        obtain ⟨y20, h⟩ := h
                        refine jIald C 168 (by decide +kernel : decode cX11_of 167 = .ok (.iaload, 1)) rfl t_a19 y20 ?_
                        exact jRetI C (by decide +kernel : decode cX11_of 168 = .ok (.ireturn, 1)) (Nat.le_refl _) (Nat.le_refl _) ⟨rfl, h⟩
                      · have h := it2 h c24_7
                        by_cases c24_8 : v2 = 12
                        · have h := it1 h c24_8
                          refine jTabIn C 169 12 (by decide +kernel : decode cX11_of 87 = .ok (.tableswitch 96 4 12 #[49, 96, 96, 96, 96, 55, 61, 72, 82], 49)) c24_8 ⟨rfl, rfl, rfl, rfl⟩ ?_
                          refine jB C [(.aload_n 0, 1, 0), (.iload_n 1, 1, 0)] 171 [(0, .ref (b + v0)), (1, .int v1), (2, .int v2)] [.int v1, .ref (b + v0)] (by decide +kernel) rfl rfl ?_
                          refine jcV_I C 174 (rest := []) (ok_X11_isBarred t_v0 h) (by decide +kernel : decode cX11_of 171 = .ok (.invokevirtual 221, 3)) rfl wd_1430 wd_1432 wp_113 wd_12 wd_1433 ⟨rfl, rfl⟩ hd_X11_isBarred ⟨Nat.le_of_ble_eq_true rfl, Nat.le_of_ble_eq_true rfl⟩ t_v0 kX11 (by decide) rfl rfl rfl (Nat.le_of_ble_eq_true rfl) ⟨Nat.zero_le _, Nat.zero_le _⟩ (fun r22 S21 h => ?_)
                          refine jIf_eq C 177 181 (by decide +kernel : decode cX11_of 174 = .ok (.ifCond .eq 7, 3)) rfl rfl (fun c23 => ?_) (fun c23 => ?_)
                          · have h := it1 h c23
                            refine jB C [(.iconst 0, 1, 0)] 182 [(0, .ref (b + v0)), (1, .int v1), (2, .int v2)] [.int 0] (by decide +kernel) rfl rfl ?_
                            exact jRetI C (by decide +kernel : decode cX11_of 182 = .ok (.ireturn, 1)) (Nat.le_refl _) (Nat.le_refl _) ⟨rfl, h⟩
                          · have h := it2 h c23
                            refine jB C [(.iconst 1, 1, 1)] 178 [(0, .ref (b + v0)), (1, .int v1), (2, .int v2)] [.int 1] (by decide +kernel) rfl rfl ?_
                            refine jGoto C 182 (by decide +kernel : decode cX11_of 178 = .ok (.goto 4, 3)) rfl ?_
                            exact jRetI C (by decide +kernel : decode cX11_of 182 = .ok (.ireturn, 1)) (Nat.le_refl _) (Nat.le_refl _) ⟨rfl, h⟩
                        · have h := it2 h c24_8
                          refine jTabOut C 183 (by decide +kernel : decode cX11_of 87 = .ok (.tableswitch 96 4 12 #[49, 96, 96, 96, 96, 55, 61, 72, 82], 49)) rfl (by have := lv_neT c24_0 (a := 4) rfl; have := lv_neT c24_1 (a := 5) rfl; have := lv_neT c24_2 (a := 6) rfl; have := lv_neT c24_3 (a := 7) rfl; have := lv_neT c24_4 (a := 8) rfl; have := lv_neT c24_5 (a := 9) rfl; have := lv_neT c24_6 (a := 10) rfl; have := lv_neT c24_7 (a := 11) rfl; have := lv_neT c24_8 (a := 12) rfl; omega) ?_
                          refine jB C [(.iconst (-1), 1, (-1))] 184 [(0, .ref (b + v0)), (1, .int v1), (2, .int v2)] [.int (-1)] (by decide +kernel) rfl rfl ?_
                          exact jRetI C (by decide +kernel : decode cX11_of 184 = .ok (.ireturn, 1)) (Nat.le_refl _) (Nat.le_refl _) ⟨rfl, h⟩
      · have h := it2 h c10
        refine jB C [(.iload_n 2, 1, 0), (.iconst 5, 1, 5), (.isub, 1, 0), (.aload_n 0, 1, 0), (.iload_n 1, 1, 0)] 60 [(0, .ref (b + v0)), (1, .int v1), (2, .int v2)] [.int v1, .ref (b + v0), .int (v2 - 5)] (by decide +kernel) rfl rfl ?_
        refine jcV_I C 63 (rest := [.int (v2 - 5)]) (ok_X11_lensesOf t_v0 h) (by decide +kernel : decode cX11_of 60 = .ok (.invokevirtual 196, 3)) rfl wd_1382 wd_1384 wp_104 wd_12 wd_1385 ⟨rfl, rfl⟩ hd_X11_lensesOf ⟨Nat.le_of_ble_eq_true rfl, Nat.le_of_ble_eq_true rfl⟩ t_v0 kX11 (by decide) rfl rfl rfl (Nat.le_of_ble_eq_true rfl) ⟨Nat.zero_le _, Nat.zero_le _⟩ (fun r26 S25 h => ?_)
        refine jIcmp_ge C 66 84 (by decide +kernel : decode cX11_of 63 = .ok (.if_icmp .ge 21, 3)) rfl rfl (fun c27 => ?_) (fun c27 => ?_)
        · have h := it1 h c27
          refine jB C [(.iconst (-1), 1, (-1))] 85 [(0, .ref (b + v0)), (1, .int v1), (2, .int v2)] [.int (-1)] (by decide +kernel) rfl rfl ?_
          exact jRetI C (by decide +kernel : decode cX11_of 85 = .ok (.ireturn, 1)) (Nat.le_refl _) (Nat.le_refl _) ⟨rfl, h⟩
        · have h := it2 h c27
          refine jB C [(.aload_n 0, 1, 0)] 67 [(0, .ref (b + v0)), (1, .int v1), (2, .int v2)] [.ref (b + v0)] (by decide +kernel) rfl rfl ?_
          obtain ⟨a28, e_a28, h⟩ := h
          refine jGetR C 70 (by decide +kernel : decode cX11_of 67 = .ok (.getfield 16, 3)) rfl t_v0 kX11 4 (by decide) rfl rfl (by decide) wd_1158 e_a28 rfl (fun t_a28 => ?_)
          refine jB C [(.bipush 32, 2, 32), (.iconst 5, 1, 5), (.iload_n 1, 1, 0), (.imul, 1, 0), (.iadd, 1, 0), (.iload_n 2, 1, 0), (.iadd, 1, 0), (.iconst 4, 1, 4), (.isub, 1, 0)] 80 [(0, .ref (b + v0)), (1, .int v1), (2, .int v2)] [.int (((32 + (5 * v1)) + v2) - 4), .ref (b + a28)] (by decide +kernel) rfl rfl ?_
          obtain ⟨y29, h⟩ := h
          refine jIald C 81 (by decide +kernel : decode cX11_of 80 = .ok (.iaload, 1)) rfl t_a28 y29 ?_
          refine jGoto C 85 (by decide +kernel : decode cX11_of 81 = .ok (.goto 4, 3)) rfl ?_
          exact jRetI C (by decide +kernel : decode cX11_of 85 = .ok (.ireturn, 1)) (Nat.le_refl _) (Nat.le_refl _) ⟨rfl, h⟩
    · have h := it2 h c7
      refine jB C [(.aload_n 0, 1, 0)] 28 [(0, .ref (b + v0)), (1, .int v1), (2, .int v2)] [.ref (b + v0)] (by decide +kernel) rfl rfl ?_
      obtain ⟨a30, e_a30, h⟩ := h
      refine jGetR C 31 (by decide +kernel : decode cX11_of 28 = .ok (.getfield 16, 3)) rfl t_v0 kX11 4 (by decide) rfl rfl (by decide) wd_1158 e_a30 rfl (fun t_a30 => ?_)
      refine jB C [(.bipush 8, 2, 8), (.iconst 4, 1, 4), (.iload_n 1, 1, 0), (.imul, 1, 0), (.iadd, 1, 0), (.iload_n 2, 1, 0), (.iadd, 1, 0)] 39 [(0, .ref (b + v0)), (1, .int v1), (2, .int v2)] [.int ((8 + (4 * v1)) + v2), .ref (b + a30)] (by decide +kernel) rfl rfl ?_
      obtain ⟨y31, h⟩ := h
      refine jIald C 40 (by decide +kernel : decode cX11_of 39 = .ok (.iaload, 1)) rfl t_a30 y31 ?_
      exact jRetI C (by decide +kernel : decode cX11_of 40 = .ok (.ireturn, 1)) (Nat.le_refl _) (Nat.le_refl _) ⟨rfl, h⟩
  · have h := it1 h c4
    refine jB C [(.iconst (-1), 1, (-1))] 14 [(0, .ref (b + v0)), (1, .int v1), (2, .int v2)] [.int (-1)] (by decide +kernel) rfl rfl ?_
    exact jRetI C (by decide +kernel : decode cX11_of 14 = .ok (.ireturn, 1)) (Nat.le_refl _) (Nat.le_refl _) ⟨rfl, h⟩
theorem ok_X11_of {G : Gm} {v0 : Nat} {v1 : Int32} {v2 : Int32} {S : St} {Q : Int32 → St → Prop}  (t_v0 : ok G 10 v0) (h : f_X11_of G v0 v1 v2 Q S) : MT yX11_of cX11_of 3 (some .int) rm_X11_of 0 0 (fun b => [.ref (b + v0), .int v1, .int v2]) G S (QI (fun r G1 S1 => G1 = G ∧ Q r S1)) := MT.ofJ (by decide +kernel) (fun b => [(0, .ref (b + v0)), (1, .int v1), (2, .int v2)]) (fun b => rfl) (fun b => Nat.le_of_ble_eq_true rfl) (fun l b D cy p e s m below meth c C hE hn => j_X11_of C hE t_v0 h)
theorem hd_X11_of : yX11_of.cls ≠ "java/lang/invoke/MethodHandle" ∧ yX11_of.cls ≠ "java/lang/invoke/VarHandle" ∧ (parseMethodDescriptor yX11_of.desc).map (fun d => d.parameters.length) = some 2 := by decide +kernel
abbrev rm_X11_readSum : Room := { frames := 7, cells := 0, slots := 0, locals := 151 }
set_option maxHeartbeats 4000000 in
set_option maxRecDepth 100000 in
theorem j_X11_readSum_22 {p : Program} {l : Launch} {e : Env} {s : State} {m : MethodId} {args : Array Value} {below : List Frame} {meth : Method} {c : Code} {b : Nat} {D : va_G} {cy : Nat → ClassId} {G : Gm} {v0 : Nat} {v1 : Int32} {S : St} {Q : St → Prop} (C : CX p s m args meth c b D cy cX11_readSum RX11 2 none) (hE : s.heap.size + 0 ≤ b + G.2.2) (t_v0 : ok G 10 v0) (h : f_X11_readSum_22 G v0 v1 Q S) : J p l e rm_X11_readSum s m args below meth c b D cy 2 (zV b D cy below args s G Q) 0 0 G S 22 [(0, .ref (b + v0)), (1, .int v1)] [] := by
  unfold f_X11_readSum_22 at h
  refine jB C [(.aload_n 0, 1, 0)] 23 [(0, .ref (b + v0)), (1, .int v1)] [.ref (b + v0)] (by decide +kernel) rfl rfl ?_
  obtain ⟨a1, e_a1, h⟩ := h
  refine jGetR C 26 (by decide +kernel : decode cX11_readSum 23 = .ok (.getfield 149, 3)) rfl t_v0 kX11 52 (by decide) rfl rfl (by decide) wd_1206 e_a1 rfl (fun t_a1 => ?_)
  refine jB C [(.iload_n 1, 1, 0), (.iconst 1, 1, 1), (.iadd, 1, 0), (.aload_n 0, 1, 0)] 30 [(0, .ref (b + v0)), (1, .int v1)] [.ref (b + v0), .int (v1 + 1), .ref (b + a1)] (by decide +kernel) rfl rfl ?_
  refine jGetI C 33 (by decide +kernel : decode cX11_readSum 30 = .ok (.getfield 308, 3)) rfl t_v0 kX11 24 (by decide) rfl rfl (by decide) wd_1178 ?_
  obtain ⟨y2, h⟩ := h
  refine jIast C 34 (by decide +kernel : decode cX11_readSum 33 = .ok (.iastore, 1)) rfl hE t_a1 y2 ?_
  refine jTopS (fun S3 e_S3 => ?_)
  have h := h S3 e_S3
  exact jRetV C (by decide +kernel : decode cX11_readSum 34 = .ok (.return_, 1)) (Nat.le_refl _) (Nat.le_refl _) ⟨rfl, h⟩
set_option maxHeartbeats 4000000 in
set_option maxRecDepth 100000 in
theorem j_X11_readSum {p : Program} {l : Launch} {e : Env} {s : State} {m : MethodId} {args : Array Value} {below : List Frame} {meth : Method} {c : Code} {b : Nat} {D : va_G} {cy : Nat → ClassId} {G : Gm} {v0 : Nat} {v1 : Int32} {S : St} {Q : St → Prop} (C : CX p s m args meth c b D cy cX11_readSum RX11 2 none) (hE : s.heap.size + 0 ≤ b + G.2.2) (t_v0 : ok G 10 v0) (h : f_X11_readSum G v0 v1 Q S) : J p l e rm_X11_readSum s m args below meth c b D cy 2 (zV b D cy below args s G Q) 0 0 G S 0 [(0, .ref (b + v0)), (1, .int v1)] [] := by
  unfold f_X11_readSum at h
  refine jB C [(.aload_n 0, 1, 0)] 1 [(0, .ref (b + v0)), (1, .int v1)] [.ref (b + v0)] (by decide +kernel) rfl rfl ?_
  obtain ⟨a1, e_a1, h⟩ := h
  refine jGetR C 4 (by decide +kernel : decode cX11_readSum 1 = .ok (.getfield 149, 3)) rfl t_v0 kX11 52 (by decide) rfl rfl (by decide) wd_1206 e_a1 rfl (fun t_a1 => ?_)
  refine jB C [(.iload_n 1, 1, 0), (.aload_n 0, 1, 0)] 6 [(0, .ref (b + v0)), (1, .int v1)] [.ref (b + v0), .int v1, .ref (b + a1)] (by decide +kernel) rfl rfl ?_
  refine jGetI C 9 (by decide +kernel : decode cX11_readSum 6 = .ok (.getfield 308, 3)) rfl t_v0 kX11 24 (by decide) rfl rfl (by decide) wd_1178 ?_
  obtain ⟨y2, h⟩ := h
  refine jIast C 10 (by decide +kernel : decode cX11_readSum 9 = .ok (.iastore, 1)) rfl hE t_a1 y2 ?_
  refine jTopS (fun S3 e_S3 => ?_)
  have h := h S3 e_S3
  refine jB C [(.aload_n 0, 1, 0)] 11 [(0, .ref (b + v0)), (1, .int v1)] [.ref (b + v0)] (by decide +kernel) rfl rfl ?_
  refine jGetI C 14 (by decide +kernel : decode cX11_readSum 11 = .ok (.getfield 271, 3)) rfl t_v0 kX11 20 (by decide) rfl rfl (by decide) wd_1174 ?_
  refine jIf_ne C 17 22 (by decide +kernel : decode cX11_readSum 14 = .ok (.ifCond .ne 8, 3)) rfl rfl (fun c4 => ?_) (fun c4 => ?_)
  · have h := it2 h c4
    refine jSub [0, 1] rfl ?_
    exact j_X11_readSum_22 C hE t_v0 h
  · have h := it1 h c4
    refine jB C [(.aload_n 0, 1, 0), (.iconst 0, 1, 0)] 19 [(0, .ref (b + v0)), (1, .int v1)] [.int 0, .ref (b + v0)] (by decide +kernel) rfl rfl ?_
    refine jcV_V C 22 (rest := []) (ok_X11_readExpression t_v0 h) (by decide +kernel : decode cX11_readSum 19 = .ok (.invokevirtual 402, 3)) rfl wd_1550 wd_1552 wp_125 wd_12 wd_1553 ⟨rfl, rfl⟩ hd_X11_readExpression ⟨Nat.le_of_ble_eq_true rfl, Nat.le_of_ble_eq_true rfl⟩ t_v0 kX11 (by decide) rfl rfl rfl (Nat.le_of_ble_eq_true rfl) ⟨Nat.zero_le _, Nat.zero_le _⟩ (fun S5 h => ?_)
    refine jSub [0, 1] rfl ?_
    exact j_X11_readSum_22 C hE t_v0 h
theorem ok_X11_readSum {G : Gm} {v0 : Nat} {v1 : Int32} {S : St} {Q : St → Prop}  (t_v0 : ok G 10 v0) (h : f_X11_readSum G v0 v1 Q S) : MT yX11_readSum cX11_readSum 2 none rm_X11_readSum 0 0 (fun b => [.ref (b + v0), .int v1]) G S (QV (fun G1 S1 => G1 = G ∧ Q S1)) := MT.ofJ (by decide +kernel) (fun b => [(0, .ref (b + v0)), (1, .int v1)]) (fun b => rfl) (fun b => Nat.le_of_ble_eq_true rfl) (fun l b D cy p e s m below meth c C hE hn => j_X11_readSum C hE t_v0 h)
theorem hd_X11_readSum : yX11_readSum.cls ≠ "java/lang/invoke/MethodHandle" ∧ yX11_readSum.cls ≠ "java/lang/invoke/VarHandle" ∧ (parseMethodDescriptor yX11_readSum.desc).map (fun d => d.parameters.length) = some 1 := by decide +kernel
abbrev rm_X11_readOrder : Room := { frames := 8, cells := 0, slots := 0, locals := 172 }
set_option maxHeartbeats 4000000 in
set_option maxRecDepth 100000 in
theorem j_X11_readOrder_251 {p : Program} {l : Launch} {e : Env} {s : State} {m : MethodId} {args : Array Value} {below : List Frame} {meth : Method} {c : Code} {b : Nat} {D : va_G} {cy : Nat → ClassId} {G : Gm} {v0 : Nat} {v2 : Int32} {S : St} {Q : St → Prop} (C : CX p s m args meth c b D cy cX11_readOrder RX11 4 none) (hE : s.heap.size + 0 ≤ b + G.2.2) (t_v0 : ok G 10 v0) (h : f_X11_readOrder_251 G v0 v2 Q S) : J p l e rm_X11_readOrder s m args below meth c b D cy 4 (zV b D cy below args s G Q) 0 0 G S 251 [(0, .ref (b + v0)), (2, .int v2)] [] := by
  unfold f_X11_readOrder_251 at h
  refine jB C [(.aload_n 0, 1, 0)] 252 [(0, .ref (b + v0)), (2, .int v2)] [.ref (b + v0)] (by decide +kernel) rfl rfl ?_
  obtain ⟨a1, e_a1, h⟩ := h
  refine jGetR C 255 (by decide +kernel : decode cX11_readOrder 252 = .ok (.getfield 149, 3)) rfl t_v0 kX11 52 (by decide) rfl rfl (by decide) wd_1206 e_a1 rfl (fun t_a1 => ?_)
  refine jB C [(.iload_n 2, 1, 0), (.bipush 6, 2, 6), (.iadd, 1, 0), (.aload_n 0, 1, 0)] 260 [(0, .ref (b + v0)), (2, .int v2)] [.ref (b + v0), .int (v2 + 6), .ref (b + a1)] (by decide +kernel) rfl rfl ?_
  refine jGetI C 263 (by decide +kernel : decode cX11_readOrder 260 = .ok (.getfield 308, 3)) rfl t_v0 kX11 24 (by decide) rfl rfl (by decide) wd_1178 ?_
  obtain ⟨y2, h⟩ := h
  refine jIast C 264 (by decide +kernel : decode cX11_readOrder 263 = .ok (.iastore, 1)) rfl hE t_a1 y2 ?_
  refine jTopS (fun S3 e_S3 => ?_)
  have h := h S3 e_S3
  exact jRetV C (by decide +kernel : decode cX11_readOrder 264 = .ok (.return_, 1)) (Nat.le_refl _) (Nat.le_refl _) ⟨rfl, h⟩
set_option maxHeartbeats 4000000 in
set_option maxRecDepth 100000 in
theorem j_X11_readOrder_213 {p : Program} {l : Launch} {e : Env} {s : State} {m : MethodId} {args : Array Value} {below : List Frame} {meth : Method} {c : Code} {b : Nat} {D : va_G} {cy : Nat → ClassId} {G : Gm} {v0 : Nat} {v2 : Int32} {S : St} {Q : St → Prop} (C : CX p s m args meth c b D cy cX11_readOrder RX11 4 none) (hE : s.heap.size + 0 ≤ b + G.2.2) (t_v0 : ok G 10 v0) (h : f_X11_readOrder_213 G v0 v2 Q S) : J p l e rm_X11_readOrder s m args below meth c b D cy 4 (zV b D cy below args s G Q) 0 0 G S 213 [(0, .ref (b + v0)), (2, .int v2)] [] := by
  unfold f_X11_readOrder_213 at h
  refine jB C [(.aload_n 0, 1, 0)] 214 [(0, .ref (b + v0)), (2, .int v2)] [.ref (b + v0)] (by decide +kernel) rfl rfl ?_
  obtain ⟨a1, e_a1, h⟩ := h
  refine jGetR C 217 (by decide +kernel : decode cX11_readOrder 214 = .ok (.getfield 149, 3)) rfl t_v0 kX11 52 (by decide) rfl rfl (by decide) wd_1206 e_a1 rfl (fun t_a1 => ?_)
  refine jB C [(.iload_n 2, 1, 0), (.iconst 5, 1, 5), (.iadd, 1, 0), (.aload_n 0, 1, 0)] 221 [(0, .ref (b + v0)), (2, .int v2)] [.ref (b + v0), .int (v2 + 5), .ref (b + a1)] (by decide +kernel) rfl rfl ?_
  refine jGetI C 224 (by decide +kernel : decode cX11_readOrder 221 = .ok (.getfield 308, 3)) rfl t_v0 kX11 24 (by decide) rfl rfl (by decide) wd_1178 ?_
  obtain ⟨y2, h⟩ := h
  refine jIast C 225 (by decide +kernel : decode cX11_readOrder 224 = .ok (.iastore, 1)) rfl hE t_a1 y2 ?_
  refine jTopS (fun S3 e_S3 => ?_)
  have h := h S3 e_S3
  refine jB C [(.aload_n 0, 1, 0)] 226 [(0, .ref (b + v0)), (2, .int v2)] [.ref (b + v0)] (by decide +kernel) rfl rfl ?_
  refine jGetI C 229 (by decide +kernel : decode cX11_readOrder 226 = .ok (.getfield 271, 3)) rfl t_v0 kX11 20 (by decide) rfl rfl (by decide) wd_1174 ?_
  refine jIf_ne C 232 251 (by decide +kernel : decode cX11_readOrder 229 = .ok (.ifCond .ne 22, 3)) rfl rfl (fun c4 => ?_) (fun c4 => ?_)
  · have h := it2 h c4
    refine jSub [0, 1] rfl ?_
    exact j_X11_readOrder_251 C hE t_v0 h
  · have h := it1 h c4
    refine jB C [(.aload_n 0, 1, 0)] 233 [(0, .ref (b + v0)), (2, .int v2)] [.ref (b + v0)] (by decide +kernel) rfl rfl ?_
    refine jLdc2 C 236 (by decide +kernel : decode cX11_readOrder 233 = .ok (.ldc2_w 405, 3)) rfl wd_1625 ?_
    refine jcV_I C 239 (rest := []) (ok_X11_isWord t_v0 h) (by decide +kernel : decode cX11_readOrder 236 = .ok (.invokevirtual 328, 3)) rfl wd_1542 wd_1544 wp_123 wd_12 wd_1545 ⟨rfl, rfl⟩ hd_X11_isWord ⟨Nat.le_of_ble_eq_true rfl, Nat.le_of_ble_eq_true rfl⟩ t_v0 kX11 (by decide) rfl rfl rfl (Nat.le_of_ble_eq_true rfl) ⟨Nat.zero_le _, Nat.zero_le _⟩ (fun r6 S5 h => ?_)
    refine jIf_eq C 242 251 (by decide +kernel : decode cX11_readOrder 239 = .ok (.ifCond .eq 12, 3)) rfl rfl (fun c7 => ?_) (fun c7 => ?_)
    · have h := it1 h c7
      refine jSub [0, 1] rfl ?_
      exact j_X11_readOrder_251 C hE t_v0 h
    · have h := it2 h c7
      refine jB C [(.aload_n 0, 1, 0)] 243 [(0, .ref (b + v0)), (2, .int v2)] [.ref (b + v0)] (by decide +kernel) rfl rfl ?_
      refine jcV_V C 246 (rest := []) (ok_X11_next t_v0 h) (by decide +kernel : decode cX11_readOrder 243 = .ok (.invokevirtual 275, 3)) rfl wd_1524 wd_1526 wp_121 wd_12 wd_1527 ⟨rfl, rfl⟩ hd_X11_next ⟨Nat.le_of_ble_eq_true rfl, Nat.le_of_ble_eq_true rfl⟩ t_v0 kX11 (by decide) rfl rfl rfl (Nat.le_of_ble_eq_true rfl) ⟨Nat.zero_le _, Nat.zero_le _⟩ (fun S8 h => ?_)
      refine jB C [(.aload_n 0, 1, 0), (.iconst 1, 1, 1)] 248 [(0, .ref (b + v0)), (2, .int v2)] [.int 1, .ref (b + v0)] (by decide +kernel) rfl rfl ?_
      refine jcV_V C 251 (rest := []) (ok_X11_readExpression t_v0 h) (by decide +kernel : decode cX11_readOrder 248 = .ok (.invokevirtual 402, 3)) rfl wd_1550 wd_1552 wp_125 wd_12 wd_1553 ⟨rfl, rfl⟩ hd_X11_readExpression ⟨Nat.le_of_ble_eq_true rfl, Nat.le_of_ble_eq_true rfl⟩ t_v0 kX11 (by decide) rfl rfl rfl (Nat.le_of_ble_eq_true rfl) ⟨Nat.zero_le _, Nat.zero_le _⟩ (fun S9 h => ?_)
      refine jSub [0, 1] rfl ?_
      exact j_X11_readOrder_251 C hE t_v0 h
set_option maxHeartbeats 4000000 in
set_option maxRecDepth 100000 in
theorem j_X11_readOrder_165 {p : Program} {l : Launch} {e : Env} {s : State} {m : MethodId} {args : Array Value} {below : List Frame} {meth : Method} {c : Code} {b : Nat} {D : va_G} {cy : Nat → ClassId} {G : Gm} {v0 : Nat} {v2 : Int32} {S : St} {Q : St → Prop} (C : CX p s m args meth c b D cy cX11_readOrder RX11 4 none) (hE : s.heap.size + 0 ≤ b + G.2.2) (t_v0 : ok G 10 v0) (h : f_X11_readOrder_165 G v0 v2 Q S) : J p l e rm_X11_readOrder s m args below meth c b D cy 4 (zV b D cy below args s G Q) 0 0 G S 165 [(0, .ref (b + v0)), (2, .int v2)] [] := by
  unfold f_X11_readOrder_165 at h
  refine jB C [(.aload_n 0, 1, 0)] 166 [(0, .ref (b + v0)), (2, .int v2)] [.ref (b + v0)] (by decide +kernel) rfl rfl ?_
  obtain ⟨a1, e_a1, h⟩ := h
  refine jGetR C 169 (by decide +kernel : decode cX11_readOrder 166 = .ok (.getfield 149, 3)) rfl t_v0 kX11 52 (by decide) rfl rfl (by decide) wd_1206 e_a1 rfl (fun t_a1 => ?_)
  refine jB C [(.iload_n 2, 1, 0), (.bipush 7, 2, 7), (.iadd, 1, 0), (.iconst 1, 1, 1)] 174 [(0, .ref (b + v0)), (2, .int v2)] [.int 1, .int (v2 + 7), .ref (b + a1)] (by decide +kernel) rfl rfl ?_
  obtain ⟨y2, h⟩ := h
  refine jIast C 175 (by decide +kernel : decode cX11_readOrder 174 = .ok (.iastore, 1)) rfl hE t_a1 y2 ?_
  refine jTopS (fun S3 e_S3 => ?_)
  have h := h S3 e_S3
  refine jB C [(.aload_n 0, 1, 0)] 176 [(0, .ref (b + v0)), (2, .int v2)] [.ref (b + v0)] (by decide +kernel) rfl rfl ?_
  refine jGetI C 179 (by decide +kernel : decode cX11_readOrder 176 = .ok (.getfield 271, 3)) rfl t_v0 kX11 20 (by decide) rfl rfl (by decide) wd_1174 ?_
  refine jIf_ne C 182 213 (by decide +kernel : decode cX11_readOrder 179 = .ok (.ifCond .ne 34, 3)) rfl rfl (fun c4 => ?_) (fun c4 => ?_)
  · have h := it2 h c4
    refine jSub [0, 1] rfl ?_
    exact j_X11_readOrder_213 C hE t_v0 h
  · have h := it1 h c4
    refine jB C [(.aload_n 0, 1, 0)] 183 [(0, .ref (b + v0)), (2, .int v2)] [.ref (b + v0)] (by decide +kernel) rfl rfl ?_
    refine jLdc2 C 186 (by decide +kernel : decode cX11_readOrder 183 = .ok (.ldc2_w 533, 3)) rfl wd_1805 ?_
    refine jcV_I C 189 (rest := []) (ok_X11_isWord t_v0 h) (by decide +kernel : decode cX11_readOrder 186 = .ok (.invokevirtual 328, 3)) rfl wd_1542 wd_1544 wp_123 wd_12 wd_1545 ⟨rfl, rfl⟩ hd_X11_isWord ⟨Nat.le_of_ble_eq_true rfl, Nat.le_of_ble_eq_true rfl⟩ t_v0 kX11 (by decide) rfl rfl rfl (Nat.le_of_ble_eq_true rfl) ⟨Nat.zero_le _, Nat.zero_le _⟩ (fun r6 S5 h => ?_)
    refine jIf_eq C 192 213 (by decide +kernel : decode cX11_readOrder 189 = .ok (.ifCond .eq 24, 3)) rfl rfl (fun c7 => ?_) (fun c7 => ?_)
    · have h := it1 h c7
      refine jSub [0, 1] rfl ?_
      exact j_X11_readOrder_213 C hE t_v0 h
    · have h := it2 h c7
      refine jB C [(.aload_n 0, 1, 0)] 193 [(0, .ref (b + v0)), (2, .int v2)] [.ref (b + v0)] (by decide +kernel) rfl rfl ?_
      refine jcV_V C 196 (rest := []) (ok_X11_next t_v0 h) (by decide +kernel : decode cX11_readOrder 193 = .ok (.invokevirtual 275, 3)) rfl wd_1524 wd_1526 wp_121 wd_12 wd_1527 ⟨rfl, rfl⟩ hd_X11_next ⟨Nat.le_of_ble_eq_true rfl, Nat.le_of_ble_eq_true rfl⟩ t_v0 kX11 (by decide) rfl rfl rfl (Nat.le_of_ble_eq_true rfl) ⟨Nat.zero_le _, Nat.zero_le _⟩ (fun S8 h => ?_)
      refine jB C [(.aload_n 0, 1, 0)] 197 [(0, .ref (b + v0)), (2, .int v2)] [.ref (b + v0)] (by decide +kernel) rfl rfl ?_
      obtain ⟨a9, e_a9, h⟩ := h
      refine jGetR C 200 (by decide +kernel : decode cX11_readOrder 197 = .ok (.getfield 149, 3)) rfl t_v0 kX11 52 (by decide) rfl rfl (by decide) wd_1206 e_a9 rfl (fun t_a9 => ?_)
      refine jB C [(.iload_n 2, 1, 0), (.bipush 7, 2, 7), (.iadd, 1, 0), (.aload_n 0, 1, 0), (.lconst 1, 1, 0)] 206 [(0, .ref (b + v0)), (2, .int v2)] [.long 1, .ref (b + v0), .int (v2 + 7), .ref (b + a9)] (by decide +kernel) rfl rfl ?_
      refine jLdc2 C 209 (by decide +kernel : decode cX11_readOrder 206 = .ok (.ldc2_w 320, 3)) rfl wd_1615 ?_
      refine jcV_I C 212 (rest := [.int (v2 + 7), .ref (b + a9)]) (ok_X11_number t_v0 h) (by decide +kernel : decode cX11_readOrder 209 = .ok (.invokevirtual 363, 3)) rfl wd_1592 wd_1594 wp_135 wd_12 wd_1595 ⟨rfl, rfl⟩ hd_X11_number ⟨Nat.le_of_ble_eq_true rfl, Nat.le_of_ble_eq_true rfl⟩ t_v0 kX11 (by decide) rfl rfl rfl (Nat.le_of_ble_eq_true rfl) ⟨Nat.zero_le _, Nat.zero_le _⟩ (fun r11 S10 h => ?_)
      obtain ⟨y12, h⟩ := h
      refine jIast C 213 (by decide +kernel : decode cX11_readOrder 212 = .ok (.iastore, 1)) rfl hE t_a9 y12 ?_
      refine jTopS (fun S13 e_S13 => ?_)
      have h := h S13 e_S13
      refine jSub [0, 1] rfl ?_
      exact j_X11_readOrder_213 C hE t_v0 h
set_option maxHeartbeats 4000000 in
set_option maxRecDepth 100000 in
theorem j_X11_readOrder_158 {p : Program} {l : Launch} {e : Env} {s : State} {m : MethodId} {args : Array Value} {below : List Frame} {meth : Method} {c : Code} {b : Nat} {D : va_G} {cy : Nat → ClassId} {G : Gm} {v0 : Nat} {v2 : Int32} {S : St} {Q : St → Prop} (C : CX p s m args meth c b D cy cX11_readOrder RX11 4 none) (hE : s.heap.size + 0 ≤ b + G.2.2) (t_v0 : ok G 10 v0) (h : f_X11_readOrder_158 G v0 v2 Q S) : J p l e rm_X11_readOrder s m args below meth c b D cy 4 (zV b D cy below args s G Q) 0 0 G S 158 [(0, .ref (b + v0)), (2, .int v2)] [] := by
  unfold f_X11_readOrder_158 at h
  refine jB C [(.aload_n 0, 1, 0), (.iload_n 2, 1, 0), (.iconst 3, 1, 3), (.iadd, 1, 0)] 162 [(0, .ref (b + v0)), (2, .int v2)] [.int (v2 + 3), .ref (b + v0)] (by decide +kernel) rfl rfl ?_
  refine jcV_V C 165 (rest := []) (ok_X11_readSum t_v0 h) (by decide +kernel : decode cX11_readOrder 162 = .ok (.invokevirtual 526, 3)) rfl wd_1799 wd_1801 wp_163 wd_12 wd_1802 ⟨rfl, rfl⟩ hd_X11_readSum ⟨Nat.le_of_ble_eq_true rfl, Nat.le_of_ble_eq_true rfl⟩ t_v0 kX11 (by decide) rfl rfl rfl (Nat.le_of_ble_eq_true rfl) ⟨Nat.zero_le _, Nat.zero_le _⟩ (fun S1 h => ?_)
  refine jSub [0, 1] rfl ?_
  exact j_X11_readOrder_165 C hE t_v0 h
set_option maxHeartbeats 4000000 in
set_option maxRecDepth 100000 in
theorem j_X11_readOrder_152 {p : Program} {l : Launch} {e : Env} {s : State} {m : MethodId} {args : Array Value} {below : List Frame} {meth : Method} {c : Code} {b : Nat} {D : va_G} {cy : Nat → ClassId} {G : Gm} {v0 : Nat} {v2 : Int32} {u0 : Int64} {u1 : Nat} {u2 : Nat} {S : St} {Q : St → Prop} (C : CX p s m args meth c b D cy cX11_readOrder RX11 4 none) (hE : s.heap.size + 0 ≤ b + G.2.2) (t_v0 : ok G 10 v0) (t_u1 : ok G 10 u1) (t_u2 : ok G 10 u2) (h : f_X11_readOrder_152 G v0 v2 u0 u1 u2 Q S) : J p l e rm_X11_readOrder s m args below meth c b D cy 4 (zV b D cy below args s G Q) 0 0 G S 152 [(0, .ref (b + v0)), (2, .int v2)] [.long u0, .ref (b + u1), .ref (b + u2)] := by
  unfold f_X11_readOrder_152 at h
  refine jcV_I C 155 (rest := [.ref (b + u2)]) (ok_X11_isWord t_u1 h) (by decide +kernel : decode cX11_readOrder 152 = .ok (.invokevirtual 328, 3)) rfl wd_1542 wd_1544 wp_123 wd_12 wd_1545 ⟨rfl, rfl⟩ hd_X11_isWord ⟨Nat.le_of_ble_eq_true rfl, Nat.le_of_ble_eq_true rfl⟩ t_u1 kX11 (by decide) rfl rfl rfl (Nat.le_of_ble_eq_true rfl) ⟨Nat.zero_le _, Nat.zero_le _⟩ (fun r2 S1 h => ?_)
  refine jcV_V C 158 (rest := []) (ok_X11_must t_u2 h) (by decide +kernel : decode cX11_readOrder 155 = .ok (.invokevirtual 304, 3)) rfl wd_1546 wd_1548 wp_124 wd_12 wd_1549 ⟨rfl, rfl⟩ hd_X11_must ⟨Nat.le_of_ble_eq_true rfl, Nat.le_of_ble_eq_true rfl⟩ t_u2 kX11 (by decide) rfl rfl rfl (Nat.le_of_ble_eq_true rfl) ⟨Nat.zero_le _, Nat.zero_le _⟩ (fun S3 h => ?_)
  refine jSub [0, 1] rfl ?_
  exact j_X11_readOrder_158 C hE t_v0 h
set_option maxHeartbeats 4000000 in
set_option maxRecDepth 100000 in
theorem j_X11_readOrder_125 {p : Program} {l : Launch} {e : Env} {s : State} {m : MethodId} {args : Array Value} {below : List Frame} {meth : Method} {c : Code} {b : Nat} {D : va_G} {cy : Nat → ClassId} {G : Gm} {v0 : Nat} {v1 : Int32} {v2 : Int32} {S : St} {Q : St → Prop} (C : CX p s m args meth c b D cy cX11_readOrder RX11 4 none) (hE : s.heap.size + 0 ≤ b + G.2.2) (t_v0 : ok G 10 v0) (h : f_X11_readOrder_125 G v0 v1 v2 Q S) : J p l e rm_X11_readOrder s m args below meth c b D cy 4 (zV b D cy below args s G Q) 0 0 G S 125 [(0, .ref (b + v0)), (1, .int v1), (2, .int v2)] [] := by
  unfold f_X11_readOrder_125 at h
  refine jB C [(.iload_n 1, 1, 0), (.iconst 2, 1, 2)] 127 [(0, .ref (b + v0)), (1, .int v1), (2, .int v2)] [.int 2, .int v1] (by decide +kernel) rfl rfl ?_
  refine jIcmp_ge C 130 165 (by decide +kernel : decode cX11_readOrder 127 = .ok (.if_icmp .ge 38, 3)) rfl rfl (fun c1 => ?_) (fun c1 => ?_)
  · have h := it1 h c1
    refine jSub [0, 2] rfl ?_
    exact j_X11_readOrder_165 C hE t_v0 h
  · have h := it2 h c1
    refine jB C [(.aload_n 0, 1, 0)] 131 [(0, .ref (b + v0)), (1, .int v1), (2, .int v2)] [.ref (b + v0)] (by decide +kernel) rfl rfl ?_
    refine jGetI C 134 (by decide +kernel : decode cX11_readOrder 131 = .ok (.getfield 271, 3)) rfl t_v0 kX11 20 (by decide) rfl rfl (by decide) wd_1174 ?_
    refine jIf_ne C 137 158 (by decide +kernel : decode cX11_readOrder 134 = .ok (.ifCond .ne 24, 3)) rfl rfl (fun c2 => ?_) (fun c2 => ?_)
    · have h := it2 h c2
      refine jSub [0, 2] rfl ?_
      exact j_X11_readOrder_158 C hE t_v0 h
    · have h := it1 h c2
      refine jB C [(.aload_n 0, 1, 0), (.aload_n 0, 1, 0), (.iload_n 1, 1, 0)] 140 [(0, .ref (b + v0)), (1, .int v1), (2, .int v2)] [.int v1, .ref (b + v0), .ref (b + v0)] (by decide +kernel) rfl rfl ?_
      refine jIf_ne C 143 149 (by decide +kernel : decode cX11_readOrder 140 = .ok (.ifCond .ne 9, 3)) rfl rfl (fun c3 => ?_) (fun c3 => ?_)
      · have h := it2 h c3
        refine jLdc2 C 152 (by decide +kernel : decode cX11_readOrder 149 = .ok (.ldc2_w 531, 3)) rfl wd_1804 ?_
        refine jSub [0, 2] rfl ?_
        exact j_X11_readOrder_152 C hE t_v0 t_v0 t_v0 h
      · have h := it1 h c3
        refine jLdc2 C 146 (by decide +kernel : decode cX11_readOrder 143 = .ok (.ldc2_w 529, 3)) rfl wd_1803 ?_
        refine jGoto C 152 (by decide +kernel : decode cX11_readOrder 146 = .ok (.goto 6, 3)) rfl ?_
        refine jSub [0, 2] rfl ?_
        exact j_X11_readOrder_152 C hE t_v0 t_v0 t_v0 h
set_option maxHeartbeats 4000000 in
set_option maxRecDepth 100000 in
theorem j_X11_readOrder_85_n {p : Program} {l : Launch} {e : Env} {s : State} {m : MethodId} {args : Array Value} {below : List Frame} {meth : Method} {c : Code} {b : Nat} {D : va_G} {cy : Nat → ClassId} {G : Gm} {v0 : Nat} {v1 : Int32} {v2 : Int32} {Q : St → Prop} (C : CX p s m args meth c b D cy cX11_readOrder RX11 4 none) (hE : s.heap.size + 0 ≤ b + G.2.2) (t_v0 : ok G 10 v0) : ∀ k (v3 : Int32) S, f_X11_readOrder_85_n G v0 v1 v2 Q k v3 S → J p l e rm_X11_readOrder s m args below meth c b D cy 4 (zV b D cy below args s G Q) 0 0 G S 85 [(0, .ref (b + v0)), (1, .int v1), (2, .int v2), (3, .int v3)] [] := by
  intro k
  induction k with
  | zero => intro v3 S h; exact h.elim
  | succ k ih =>
    intro v3 S h
    unfold f_X11_readOrder_85_n at h
    refine jB C [(.iload_n 3, 1, 0), (.bipush 8, 2, 8)] 88 [(0, .ref (b + v0)), (1, .int v1), (2, .int v2), (3, .int v3)] [.int 8, .int v3] (by decide +kernel) rfl rfl ?_
    refine jIcmp_ge C 91 106 (by decide +kernel : decode cX11_readOrder 88 = .ok (.if_icmp .ge 18, 3)) rfl rfl (fun c1 => ?_) (fun c1 => ?_)
    · have h := it1 h c1
      refine jB C [(.aload_n 0, 1, 0)] 107 [(0, .ref (b + v0)), (1, .int v1), (2, .int v2), (3, .int v3)] [.ref (b + v0)] (by decide +kernel) rfl rfl ?_
      obtain ⟨a2, e_a2, h⟩ := h
      refine jGetR C 110 (by decide +kernel : decode cX11_readOrder 107 = .ok (.getfield 149, 3)) rfl t_v0 kX11 52 (by decide) rfl rfl (by decide) wd_1206 e_a2 rfl (fun t_a2 => ?_)
      refine jB C [(.iload_n 2, 1, 0), (.iload_n 1, 1, 0)] 112 [(0, .ref (b + v0)), (1, .int v1), (2, .int v2), (3, .int v3)] [.int v1, .int v2, .ref (b + a2)] (by decide +kernel) rfl rfl ?_
      obtain ⟨y3, h⟩ := h
      refine jIast C 113 (by decide +kernel : decode cX11_readOrder 112 = .ok (.iastore, 1)) rfl hE t_a2 y3 ?_
      refine jTopS (fun S4 e_S4 => ?_)
      have h := h S4 e_S4
      refine jB C [(.iload_n 1, 1, 0), (.iconst 4, 1, 4)] 115 [(0, .ref (b + v0)), (1, .int v1), (2, .int v2), (3, .int v3)] [.int 4, .int v1] (by decide +kernel) rfl rfl ?_
      refine jIcmp_eq C 118 125 (by decide +kernel : decode cX11_readOrder 115 = .ok (.if_icmp .eq 10, 3)) rfl rfl (fun c5 => ?_) (fun c5 => ?_)
      · have h := it1 h c5
        refine jSub [0, 1, 2] rfl ?_
        exact j_X11_readOrder_125 C hE t_v0 h
      · have h := it2 h c5
        refine jB C [(.aload_n 0, 1, 0), (.iload_n 2, 1, 0), (.iconst 1, 1, 1), (.iadd, 1, 0)] 122 [(0, .ref (b + v0)), (1, .int v1), (2, .int v2), (3, .int v3)] [.int (v2 + 1), .ref (b + v0)] (by decide +kernel) rfl rfl ?_
        refine jcV_V C 125 (rest := []) (ok_X11_readSum t_v0 h) (by decide +kernel : decode cX11_readOrder 122 = .ok (.invokevirtual 526, 3)) rfl wd_1799 wd_1801 wp_163 wd_12 wd_1802 ⟨rfl, rfl⟩ hd_X11_readSum ⟨Nat.le_of_ble_eq_true rfl, Nat.le_of_ble_eq_true rfl⟩ t_v0 kX11 (by decide) rfl rfl rfl (Nat.le_of_ble_eq_true rfl) ⟨Nat.zero_le _, Nat.zero_le _⟩ (fun S6 h => ?_)
        refine jSub [0, 1, 2] rfl ?_
        exact j_X11_readOrder_125 C hE t_v0 h
    · have h := it2 h c1
      refine jB C [(.aload_n 0, 1, 0)] 92 [(0, .ref (b + v0)), (1, .int v1), (2, .int v2), (3, .int v3)] [.ref (b + v0)] (by decide +kernel) rfl rfl ?_
      obtain ⟨a7, e_a7, h⟩ := h
      refine jGetR C 95 (by decide +kernel : decode cX11_readOrder 92 = .ok (.getfield 149, 3)) rfl t_v0 kX11 52 (by decide) rfl rfl (by decide) wd_1206 e_a7 rfl (fun t_a7 => ?_)
      refine jB C [(.iload_n 2, 1, 0), (.iload_n 3, 1, 0), (.iadd, 1, 0), (.iconst 0, 1, 0)] 99 [(0, .ref (b + v0)), (1, .int v1), (2, .int v2), (3, .int v3)] [.int 0, .int (v2 + v3), .ref (b + a7)] (by decide +kernel) rfl rfl ?_
      obtain ⟨y8, h⟩ := h
      refine jIast C 100 (by decide +kernel : decode cX11_readOrder 99 = .ok (.iastore, 1)) rfl hE t_a7 y8 ?_
      refine jTopS (fun S9 e_S9 => ?_)
      have h := h S9 e_S9
      refine jB C [(.iinc 3 1, 3, 1)] 103 [(3, .int (v3 + 1)), (0, .ref (b + v0)), (1, .int v1), (2, .int v2)] [] (by decide +kernel) rfl rfl ?_
      refine jGoto C 85 (by decide +kernel : decode cX11_readOrder 103 = .ok (.goto (-18), 3)) rfl ?_
      refine jSub [1, 2, 3, 0] rfl ?_
      exact ih (v3 + 1) S9 h
theorem j_X11_readOrder_85 {p : Program} {l : Launch} {e : Env} {s : State} {m : MethodId} {args : Array Value} {below : List Frame} {meth : Method} {c : Code} {b : Nat} {D : va_G} {cy : Nat → ClassId} {G : Gm} {v0 : Nat} {v1 : Int32} {v2 : Int32} {v3 : Int32} {S : St} {Q : St → Prop} (C : CX p s m args meth c b D cy cX11_readOrder RX11 4 none) (hE : s.heap.size + 0 ≤ b + G.2.2) (t_v0 : ok G 10 v0) (h : f_X11_readOrder_85 G v0 v1 v2 Q v3 S) : J p l e rm_X11_readOrder s m args below meth c b D cy 4 (zV b D cy below args s G Q) 0 0 G S 85 [(0, .ref (b + v0)), (1, .int v1), (2, .int v2), (3, .int v3)] [] := by
  obtain ⟨k, h⟩ := h
  exact j_X11_readOrder_85_n C hE t_v0 k v3 S h
set_option maxHeartbeats 4000000 in
set_option maxRecDepth 100000 in
theorem j_X11_readOrder_54 {p : Program} {l : Launch} {e : Env} {s : State} {m : MethodId} {args : Array Value} {below : List Frame} {meth : Method} {c : Code} {b : Nat} {D : va_G} {cy : Nat → ClassId} {G : Gm} {v0 : Nat} {v1 : Int32} {u0 : Int32} {u1 : Nat} {S : St} {Q : St → Prop} (C : CX p s m args meth c b D cy cX11_readOrder RX11 4 none) (hE : s.heap.size + 0 ≤ b + G.2.2) (t_v0 : ok G 10 v0) (t_u1 : ok G 10 u1) (h : f_X11_readOrder_54 G v0 v1 u0 u1 Q S) : J p l e rm_X11_readOrder s m args below meth c b D cy 4 (zV b D cy below args s G Q) 0 0 G S 54 [(0, .ref (b + v0)), (1, .int v1)] [.int u0, .ref (b + u1)] := by
  unfold f_X11_readOrder_54 at h
  refine jcV_V C 57 (rest := []) (ok_X11_must t_u1 h) (by decide +kernel : decode cX11_readOrder 54 = .ok (.invokevirtual 304, 3)) rfl wd_1546 wd_1548 wp_124 wd_12 wd_1549 ⟨rfl, rfl⟩ hd_X11_must ⟨Nat.le_of_ble_eq_true rfl, Nat.le_of_ble_eq_true rfl⟩ t_u1 kX11 (by decide) rfl rfl rfl (Nat.le_of_ble_eq_true rfl) ⟨Nat.zero_le _, Nat.zero_le _⟩ (fun S1 h => ?_)
  refine jB C [(.aload_n 0, 1, 0)] 58 [(0, .ref (b + v0)), (1, .int v1)] [.ref (b + v0)] (by decide +kernel) rfl rfl ?_
  refine jGetI C 61 (by decide +kernel : decode cX11_readOrder 58 = .ok (.getfield 271, 3)) rfl t_v0 kX11 20 (by decide) rfl rfl (by decide) wd_1174 ?_
  refine jIf_eq C 64 65 (by decide +kernel : decode cX11_readOrder 61 = .ok (.ifCond .eq 4, 3)) rfl rfl (fun c2 => ?_) (fun c2 => ?_)
  · have h := it1 h c2
    refine jB C [(.bipush 8, 2, 8), (.aload_n 0, 1, 0)] 68 [(0, .ref (b + v0)), (1, .int v1)] [.ref (b + v0), .int 8] (by decide +kernel) rfl rfl ?_
    refine jGetI C 71 (by decide +kernel : decode cX11_readOrder 68 = .ok (.getfield 399, 3)) rfl t_v0 kX11 22 (by decide) rfl rfl (by decide) wd_1176 ?_
    refine jB C [(.imul, 1, 0)] 72 [(0, .ref (b + v0)), (1, .int v1)] [.int (8 * (S1.1 v0 22))] (by decide +kernel) rfl rfl ?_
    refine jTopI (fun x3 e_x3 => ?_)
    have h := h x3 e_x3
    refine jB C [(.istore_n 2, 1, 0), (.aload_n 0, 1, 0), (.dup, 1, 0)] 75 [(2, .int x3), (0, .ref (b + v0)), (1, .int v1)] [.ref (b + v0), .ref (b + v0)] (by decide +kernel) rfl rfl ?_
    refine jGetI C 78 (by decide +kernel : decode cX11_readOrder 75 = .ok (.getfield 399, 3)) rfl t_v0 kX11 22 (by decide) rfl rfl (by decide) wd_1176 ?_
    refine jB C [(.iconst 1, 1, 1), (.iadd, 1, 0)] 80 [(2, .int x3), (0, .ref (b + v0)), (1, .int v1)] [.int ((S1.1 v0 22) + 1), .ref (b + v0)] (by decide +kernel) rfl rfl ?_
    refine jPutI C 83 (by decide +kernel : decode cX11_readOrder 80 = .ok (.putfield 399, 3)) rfl hE t_v0 kX11 22 (by decide) rfl rfl (by decide) rfl wd_1176 rfl rfl rfl ?_
    refine jTopS (fun S4 e_S4 => ?_)
    have h := h S4 e_S4
    refine jB C [(.iconst 0, 1, 0), (.istore_n 3, 1, 0)] 85 [(3, .int 0), (2, .int x3), (0, .ref (b + v0)), (1, .int v1)] [] (by decide +kernel) rfl rfl ?_
    refine jSub [2, 3, 1, 0] rfl ?_
    exact j_X11_readOrder_85 C hE t_v0 h
  · have h := it2 h c2
    exact jRetV C (by decide +kernel : decode cX11_readOrder 64 = .ok (.return_, 1)) (Nat.le_refl _) (Nat.le_refl _) ⟨rfl, h⟩
set_option maxHeartbeats 4000000 in
set_option maxRecDepth 100000 in
theorem j_X11_readOrder_53 {p : Program} {l : Launch} {e : Env} {s : State} {m : MethodId} {args : Array Value} {below : List Frame} {meth : Method} {c : Code} {b : Nat} {D : va_G} {cy : Nat → ClassId} {G : Gm} {v0 : Nat} {v1 : Int32} {u0 : Nat} {S : St} {Q : St → Prop} (C : CX p s m args meth c b D cy cX11_readOrder RX11 4 none) (hE : s.heap.size + 0 ≤ b + G.2.2) (t_v0 : ok G 10 v0) (t_u0 : ok G 10 u0) (h : f_X11_readOrder_53 G v0 v1 u0 Q S) : J p l e rm_X11_readOrder s m args below meth c b D cy 4 (zV b D cy below args s G Q) 0 0 G S 53 [(0, .ref (b + v0)), (1, .int v1)] [.ref (b + u0)] := by
  unfold f_X11_readOrder_53 at h
  refine jB C [(.iconst 0, 1, 0)] 54 [(0, .ref (b + v0)), (1, .int v1)] [.int 0, .ref (b + u0)] (by decide +kernel) rfl rfl ?_
  refine jSub [0, 1] rfl ?_
  exact j_X11_readOrder_54 C hE t_v0 t_u0 h
set_option maxHeartbeats 4000000 in
set_option maxRecDepth 100000 in
theorem j_X11_readOrder_4_n {p : Program} {l : Launch} {e : Env} {s : State} {m : MethodId} {args : Array Value} {below : List Frame} {meth : Method} {c : Code} {b : Nat} {D : va_G} {cy : Nat → ClassId} {G : Gm} {v0 : Nat} {Q : St → Prop} (C : CX p s m args meth c b D cy cX11_readOrder RX11 4 none) (hE : s.heap.size + 0 ≤ b + G.2.2) (t_v0 : ok G 10 v0) : ∀ k (v1 : Int32) (v2 : Int32) S, f_X11_readOrder_4_n G v0 Q k v1 v2 S → J p l e rm_X11_readOrder s m args below meth c b D cy 4 (zV b D cy below args s G Q) 0 0 G S 4 [(0, .ref (b + v0)), (1, .int v1), (2, .int v2)] [] := by
  intro k
  induction k with
  | zero => intro v1 v2 S h; exact h.elim
  | succ k ih =>
    intro v1 v2 S h
    unfold f_X11_readOrder_4_n at h
    refine jB C [(.iload_n 2, 1, 0), (.iconst 5, 1, 5)] 6 [(0, .ref (b + v0)), (1, .int v1), (2, .int v2)] [.int 5, .int v2] (by decide +kernel) rfl rfl ?_
    refine jIcmp_ge C 9 34 (by decide +kernel : decode cX11_readOrder 6 = .ok (.if_icmp .ge 28, 3)) rfl rfl (fun c1 => ?_) (fun c1 => ?_)
    · have h := it1 h c1
      refine jB C [(.aload_n 0, 1, 0), (.iload_n 1, 1, 0), (.iconst (-1), 1, (-1))] 37 [(0, .ref (b + v0)), (1, .int v1), (2, .int v2)] [.int (-1), .int v1, .ref (b + v0)] (by decide +kernel) rfl rfl ?_
      refine jIcmp_eq C 40 53 (by decide +kernel : decode cX11_readOrder 37 = .ok (.if_icmp .eq 16, 3)) rfl rfl (fun c2 => ?_) (fun c2 => ?_)
      · have h := it1 h c2
        refine jSub [0, 1] rfl ?_
        exact j_X11_readOrder_53 C hE t_v0 t_v0 h
      · have h := it2 h c2
        refine jB C [(.aload_n 0, 1, 0)] 41 [(0, .ref (b + v0)), (1, .int v1), (2, .int v2)] [.ref (b + v0), .ref (b + v0)] (by decide +kernel) rfl rfl ?_
        refine jGetI C 44 (by decide +kernel : decode cX11_readOrder 41 = .ok (.getfield 399, 3)) rfl t_v0 kX11 22 (by decide) rfl rfl (by decide) wd_1176 ?_
        refine jB C [(.bipush 12, 2, 12)] 46 [(0, .ref (b + v0)), (1, .int v1), (2, .int v2)] [.int 12, .int (S.1 v0 22), .ref (b + v0)] (by decide +kernel) rfl rfl ?_
        refine jIcmp_ge C 49 53 (by decide +kernel : decode cX11_readOrder 46 = .ok (.if_icmp .ge 7, 3)) rfl rfl (fun c3 => ?_) (fun c3 => ?_)
        · have h := it1 h c3
          refine jSub [0, 1] rfl ?_
          exact j_X11_readOrder_53 C hE t_v0 t_v0 h
        · have h := it2 h c3
          refine jB C [(.iconst 1, 1, 1)] 50 [(0, .ref (b + v0)), (1, .int v1), (2, .int v2)] [.int 1, .ref (b + v0)] (by decide +kernel) rfl rfl ?_
          refine jGoto C 54 (by decide +kernel : decode cX11_readOrder 50 = .ok (.goto 4, 3)) rfl ?_
          refine jSub [0, 1] rfl ?_
          exact j_X11_readOrder_54 C hE t_v0 t_v0 h
    · have h := it2 h c1
      refine jB C [(.aload_n 0, 1, 0), (.aload_n 0, 1, 0)] 11 [(0, .ref (b + v0)), (1, .int v1), (2, .int v2)] [.ref (b + v0), .ref (b + v0)] (by decide +kernel) rfl rfl ?_
      obtain ⟨a4, e_a4, h⟩ := h
      refine jGetR C 14 (by decide +kernel : decode cX11_readOrder 11 = .ok (.getfield 146, 3)) rfl t_v0 kX11 51 (by decide) rfl rfl (by decide) wd_1205 e_a4 rfl (fun t_a4 => ?_)
      refine jB C [(.iload_n 2, 1, 0)] 15 [(0, .ref (b + v0)), (1, .int v1), (2, .int v2)] [.int v2, .ref (b + a4), .ref (b + v0)] (by decide +kernel) rfl rfl ?_
      obtain ⟨y5, h⟩ := h
      refine jLald C 16 (by decide +kernel : decode cX11_readOrder 15 = .ok (.laload, 1)) rfl t_a4 y5 ?_
      refine jcV_I C 19 (rest := []) (ok_X11_isWord t_v0 h) (by decide +kernel : decode cX11_readOrder 16 = .ok (.invokevirtual 328, 3)) rfl wd_1542 wd_1544 wp_123 wd_12 wd_1545 ⟨rfl, rfl⟩ hd_X11_isWord ⟨Nat.le_of_ble_eq_true rfl, Nat.le_of_ble_eq_true rfl⟩ t_v0 kX11 (by decide) rfl rfl rfl (Nat.le_of_ble_eq_true rfl) ⟨Nat.zero_le _, Nat.zero_le _⟩ (fun r7 S6 h => ?_)
      refine jIf_eq C 22 26 (by decide +kernel : decode cX11_readOrder 19 = .ok (.ifCond .eq 7, 3)) rfl rfl (fun c8 => ?_) (fun c8 => ?_)
      · have h := it1 h c8
        refine jB C [(.iload_n 1, 1, 0), (.istore_n 1, 1, 0), (.iinc 2 1, 3, 1)] 31 [(2, .int (v2 + 1)), (1, .int v1), (0, .ref (b + v0))] [] (by decide +kernel) rfl rfl ?_
        refine jGoto C 4 (by decide +kernel : decode cX11_readOrder 31 = .ok (.goto (-27), 3)) rfl ?_
        refine jSub [2, 1, 0] rfl ?_
        exact ih v1 (v2 + 1) S6 h
      · have h := it2 h c8
        refine jB C [(.iload_n 2, 1, 0)] 23 [(0, .ref (b + v0)), (1, .int v1), (2, .int v2)] [.int v2] (by decide +kernel) rfl rfl ?_
        refine jGoto C 27 (by decide +kernel : decode cX11_readOrder 23 = .ok (.goto 4, 3)) rfl ?_
        refine jB C [(.istore_n 1, 1, 0), (.iinc 2 1, 3, 1)] 31 [(2, .int (v2 + 1)), (1, .int v2), (0, .ref (b + v0))] [] (by decide +kernel) rfl rfl ?_
        refine jGoto C 4 (by decide +kernel : decode cX11_readOrder 31 = .ok (.goto (-27), 3)) rfl ?_
        refine jSub [2, 1, 0] rfl ?_
        exact ih v2 (v2 + 1) S6 h
theorem j_X11_readOrder_4 {p : Program} {l : Launch} {e : Env} {s : State} {m : MethodId} {args : Array Value} {below : List Frame} {meth : Method} {c : Code} {b : Nat} {D : va_G} {cy : Nat → ClassId} {G : Gm} {v0 : Nat} {v1 : Int32} {v2 : Int32} {S : St} {Q : St → Prop} (C : CX p s m args meth c b D cy cX11_readOrder RX11 4 none) (hE : s.heap.size + 0 ≤ b + G.2.2) (t_v0 : ok G 10 v0) (h : f_X11_readOrder_4 G v0 Q v1 v2 S) : J p l e rm_X11_readOrder s m args below meth c b D cy 4 (zV b D cy below args s G Q) 0 0 G S 4 [(0, .ref (b + v0)), (1, .int v1), (2, .int v2)] [] := by
  obtain ⟨k, h⟩ := h
  exact j_X11_readOrder_4_n C hE t_v0 k v1 v2 S h
set_option maxHeartbeats 4000000 in
set_option maxRecDepth 100000 in
theorem j_X11_readOrder {p : Program} {l : Launch} {e : Env} {s : State} {m : MethodId} {args : Array Value} {below : List Frame} {meth : Method} {c : Code} {b : Nat} {D : va_G} {cy : Nat → ClassId} {G : Gm} {v0 : Nat} {S : St} {Q : St → Prop} (C : CX p s m args meth c b D cy cX11_readOrder RX11 4 none) (hE : s.heap.size + 0 ≤ b + G.2.2) (t_v0 : ok G 10 v0) (h : f_X11_readOrder G v0 Q S) : J p l e rm_X11_readOrder s m args below meth c b D cy 4 (zV b D cy below args s G Q) 0 0 G S 0 [(0, .ref (b + v0))] [] := by
  unfold f_X11_readOrder at h
  refine jB C [(.iconst (-1), 1, (-1)), (.istore_n 1, 1, 0), (.iconst 0, 1, 0), (.istore_n 2, 1, 0)] 4 [(2, .int 0), (1, .int (-1)), (0, .ref (b + v0))] [] (by decide +kernel) rfl rfl ?_
  refine jSub [2, 1, 0] rfl ?_
  exact j_X11_readOrder_4 C hE t_v0 h
theorem ok_X11_readOrder {G : Gm} {v0 : Nat} {S : St} {Q : St → Prop}  (t_v0 : ok G 10 v0) (h : f_X11_readOrder G v0 Q S) : MT yX11_readOrder cX11_readOrder 4 none rm_X11_readOrder 0 0 (fun b => [.ref (b + v0)]) G S (QV (fun G1 S1 => G1 = G ∧ Q S1)) := MT.ofJ (by decide +kernel) (fun b => [(0, .ref (b + v0))]) (fun b => rfl) (fun b => Nat.le_of_ble_eq_true rfl) (fun l b D cy p e s m below meth c C hE hn => j_X11_readOrder C hE t_v0 h)
theorem hd_X11_readOrder : yX11_readOrder.cls ≠ "java/lang/invoke/MethodHandle" ∧ yX11_readOrder.cls ≠ "java/lang/invoke/VarHandle" ∧ (parseMethodDescriptor yX11_readOrder.desc).map (fun d => d.parameters.length) = some 0 := by decide +kernel
abbrev rm_X11_sumOf : Room := { frames := 4, cells := 0, slots := 0, locals := 92 }
set_option maxHeartbeats 4000000 in
set_option maxRecDepth 100000 in
theorem j_X11_sumOf {p : Program} {l : Launch} {e : Env} {s : State} {m : MethodId} {args : Array Value} {below : List Frame} {meth : Method} {c : Code} {b : Nat} {D : va_G} {cy : Nat → ClassId} {G : Gm} {v0 : Nat} {v1 : Int32} {S : St} {Q : Int32 → St → Prop} (C : CX p s m args meth c b D cy cX11_sumOf RX11 2 (some .int)) (hE : s.heap.size + 0 ≤ b + G.2.2) (t_v0 : ok G 10 v0) (h : f_X11_sumOf G v0 v1 Q S) : J p l e rm_X11_sumOf s m args below meth c b D cy 2 (zI b D cy below args s G Q) 0 0 G S 0 [(0, .ref (b + v0)), (1, .int v1)] [] := by
  unfold f_X11_sumOf at h
  refine jB C [(.aload_n 0, 1, 0)] 1 [(0, .ref (b + v0)), (1, .int v1)] [.ref (b + v0)] (by decide +kernel) rfl rfl ?_
  refine jGetI C 4 (by decide +kernel : decode cX11_sumOf 1 = .ok (.getfield 535, 3)) rfl t_v0 kX11 56 (by decide) rfl rfl (by decide) wd_1210 ?_
  refine jIf_ne C 7 24 (by decide +kernel : decode cX11_sumOf 4 = .ok (.ifCond .ne 20, 3)) rfl rfl (fun c1 => ?_) (fun c1 => ?_)
  · have h := it2 h c1
    refine jB C [(.iconst (-1), 1, (-1))] 25 [(0, .ref (b + v0)), (1, .int v1)] [.int (-1)] (by decide +kernel) rfl rfl ?_
    exact jRetI C (by decide +kernel : decode cX11_sumOf 25 = .ok (.ireturn, 1)) (Nat.le_refl _) (Nat.le_refl _) ⟨rfl, h⟩
  · have h := it1 h c1
    refine jB C [(.aload_n 0, 1, 0)] 8 [(0, .ref (b + v0)), (1, .int v1)] [.ref (b + v0)] (by decide +kernel) rfl rfl ?_
    obtain ⟨a2, e_a2, h⟩ := h
    refine jGetR C 11 (by decide +kernel : decode cX11_sumOf 8 = .ok (.getfield 149, 3)) rfl t_v0 kX11 52 (by decide) rfl rfl (by decide) wd_1206 e_a2 rfl (fun t_a2 => ?_)
    refine jB C [(.iload_n 1, 1, 0)] 12 [(0, .ref (b + v0)), (1, .int v1)] [.int v1, .ref (b + a2)] (by decide +kernel) rfl rfl ?_
    obtain ⟨y3, h⟩ := h
    refine jIald C 13 (by decide +kernel : decode cX11_sumOf 12 = .ok (.iaload, 1)) rfl t_a2 y3 ?_
    refine jB C [(.aload_n 0, 1, 0)] 14 [(0, .ref (b + v0)), (1, .int v1)] [.ref (b + v0), .int (S.1 a2 v1.toNatClampNeg)] (by decide +kernel) rfl rfl ?_
    obtain ⟨a4, e_a4, h⟩ := h
    refine jGetR C 17 (by decide +kernel : decode cX11_sumOf 14 = .ok (.getfield 149, 3)) rfl t_v0 kX11 52 (by decide) rfl rfl (by decide) wd_1206 e_a4 rfl (fun t_a4 => ?_)
    refine jB C [(.iload_n 1, 1, 0), (.iconst 1, 1, 1), (.iadd, 1, 0)] 20 [(0, .ref (b + v0)), (1, .int v1)] [.int (v1 + 1), .ref (b + a4), .int (S.1 a2 v1.toNatClampNeg)] (by decide +kernel) rfl rfl ?_
    obtain ⟨y5, h⟩ := h
    refine jIald C 21 (by decide +kernel : decode cX11_sumOf 20 = .ok (.iaload, 1)) rfl t_a4 y5 ?_
    refine jIcmp_ne C 24 26 (by decide +kernel : decode cX11_sumOf 21 = .ok (.if_icmp .ne 5, 3)) rfl rfl (fun c6 => ?_) (fun c6 => ?_)
    · have h := it2 h c6
      refine jB C [(.aload_n 0, 1, 0), (.iconst 1, 1, 1)] 28 [(0, .ref (b + v0)), (1, .int v1)] [.int 1, .ref (b + v0)] (by decide +kernel) rfl rfl ?_
      refine jPutI C 31 (by decide +kernel : decode cX11_sumOf 28 = .ok (.putfield 347, 3)) rfl hE t_v0 kX11 21 (by decide) rfl rfl (by decide) rfl wd_1175 rfl (by decide) (by decide) ?_
      refine jTopS (fun S7 e_S7 => ?_)
      have h := h S7 e_S7
      refine jB C [(.aload_n 0, 1, 0), (.aload_n 0, 1, 0)] 33 [(0, .ref (b + v0)), (1, .int v1)] [.ref (b + v0), .ref (b + v0)] (by decide +kernel) rfl rfl ?_
      obtain ⟨a8, e_a8, h⟩ := h
      refine jGetR C 36 (by decide +kernel : decode cX11_sumOf 33 = .ok (.getfield 149, 3)) rfl t_v0 kX11 52 (by decide) rfl rfl (by decide) wd_1206 e_a8 rfl (fun t_a8 => ?_)
      refine jB C [(.iload_n 1, 1, 0)] 37 [(0, .ref (b + v0)), (1, .int v1)] [.int v1, .ref (b + a8), .ref (b + v0)] (by decide +kernel) rfl rfl ?_
      obtain ⟨y9, h⟩ := h
      refine jIald C 38 (by decide +kernel : decode cX11_sumOf 37 = .ok (.iaload, 1)) rfl t_a8 y9 ?_
      refine jB C [(.aload_n 0, 1, 0)] 39 [(0, .ref (b + v0)), (1, .int v1)] [.ref (b + v0), .int (S7.1 a8 v1.toNatClampNeg), .ref (b + v0)] (by decide +kernel) rfl rfl ?_
      obtain ⟨a10, e_a10, h⟩ := h
      refine jGetR C 42 (by decide +kernel : decode cX11_sumOf 39 = .ok (.getfield 149, 3)) rfl t_v0 kX11 52 (by decide) rfl rfl (by decide) wd_1206 e_a10 rfl (fun t_a10 => ?_)
      refine jB C [(.iload_n 1, 1, 0), (.iconst 1, 1, 1), (.iadd, 1, 0)] 45 [(0, .ref (b + v0)), (1, .int v1)] [.int (v1 + 1), .ref (b + a10), .int (S7.1 a8 v1.toNatClampNeg), .ref (b + v0)] (by decide +kernel) rfl rfl ?_
      obtain ⟨y11, h⟩ := h
      refine jIald C 46 (by decide +kernel : decode cX11_sumOf 45 = .ok (.iaload, 1)) rfl t_a10 y11 ?_
      refine jcV_V C 49 (rest := []) (ok_X11_reckonAll t_v0 h) (by decide +kernel : decode cX11_sumOf 46 = .ok (.invokevirtual 439, 3)) rfl wd_1417 wd_1419 wp_111 wd_12 wd_1420 ⟨rfl, rfl⟩ hd_X11_reckonAll ⟨Nat.le_of_ble_eq_true rfl, Nat.le_of_ble_eq_true rfl⟩ t_v0 kX11 (by decide) rfl rfl rfl (Nat.le_of_ble_eq_true rfl) ⟨Nat.zero_le _, Nat.zero_le _⟩ (fun S12 h => ?_)
      refine jB C [(.aload_n 0, 1, 0), (.iconst 0, 1, 0)] 51 [(0, .ref (b + v0)), (1, .int v1)] [.int 0, .ref (b + v0)] (by decide +kernel) rfl rfl ?_
      refine jPutI C 54 (by decide +kernel : decode cX11_sumOf 51 = .ok (.putfield 347, 3)) rfl hE t_v0 kX11 21 (by decide) rfl rfl (by decide) rfl wd_1175 rfl (by decide) (by decide) ?_
      refine jTopS (fun S13 e_S13 => ?_)
      have h := h S13 e_S13
      refine jB C [(.aload_n 0, 1, 0), (.aload_n 0, 1, 0)] 56 [(0, .ref (b + v0)), (1, .int v1)] [.ref (b + v0), .ref (b + v0)] (by decide +kernel) rfl rfl ?_
      refine jGetI C 59 (by decide +kernel : decode cX11_sumOf 56 = .ok (.getfield 419, 3)) rfl t_v0 kX11 40 (by decide) rfl rfl (by decide) wd_1194 ?_
      obtain ⟨z15, h⟩ := h
      refine jPutI C 62 (by decide +kernel : decode cX11_sumOf 59 = .ok (.putfield 535, 3)) rfl hE t_v0 kX11 56 (by decide) rfl rfl (by decide) rfl wd_1210 rfl (nbZ z15) (fbZ z15) ?_
      refine jTopS (fun S14 e_S14 => ?_)
      have h := h S14 e_S14
      refine jB C [(.aload_n 0, 1, 0)] 63 [(0, .ref (b + v0)), (1, .int v1)] [.ref (b + v0)] (by decide +kernel) rfl rfl ?_
      refine jGetJ C 66 (by decide +kernel : decode cX11_sumOf 63 = .ok (.getfield 436, 3)) rfl t_v0 kX11 41 (by decide) rfl rfl (by decide) wd_1195 ?_
      refine jB C [(.l2i, 1, 0)] 67 [(0, .ref (b + v0)), (1, .int v1)] [.int ((S14.2.1 v0 41).toInt32)] (by decide +kernel) rfl rfl ?_
      exact jRetI C (by decide +kernel : decode cX11_sumOf 67 = .ok (.ireturn, 1)) (Nat.le_refl _) (Nat.le_refl _) ⟨rfl, h⟩
    · have h := it1 h c6
      refine jB C [(.iconst (-1), 1, (-1))] 25 [(0, .ref (b + v0)), (1, .int v1)] [.int (-1)] (by decide +kernel) rfl rfl ?_
      exact jRetI C (by decide +kernel : decode cX11_sumOf 25 = .ok (.ireturn, 1)) (Nat.le_refl _) (Nat.le_refl _) ⟨rfl, h⟩
theorem ok_X11_sumOf {G : Gm} {v0 : Nat} {v1 : Int32} {S : St} {Q : Int32 → St → Prop}  (t_v0 : ok G 10 v0) (h : f_X11_sumOf G v0 v1 Q S) : MT yX11_sumOf cX11_sumOf 2 (some .int) rm_X11_sumOf 0 0 (fun b => [.ref (b + v0), .int v1]) G S (QI (fun r G1 S1 => G1 = G ∧ Q r S1)) := MT.ofJ (by decide +kernel) (fun b => [(0, .ref (b + v0)), (1, .int v1)]) (fun b => rfl) (fun b => Nat.le_of_ble_eq_true rfl) (fun l b D cy p e s m below meth c C hE hn => j_X11_sumOf C hE t_v0 h)
theorem hd_X11_sumOf : yX11_sumOf.cls ≠ "java/lang/invoke/MethodHandle" ∧ yX11_sumOf.cls ≠ "java/lang/invoke/VarHandle" ∧ (parseMethodDescriptor yX11_sumOf.desc).map (fun d => d.parameters.length) = some 1 := by decide +kernel
abbrev rm_X11_run : Room := { frames := 11, cells := 0, slots := 0, locals := 256 }
set_option maxHeartbeats 4000000 in
set_option maxRecDepth 100000 in
theorem j_X11_run_197 {p : Program} {l : Launch} {e : Env} {s : State} {m : MethodId} {args : Array Value} {below : List Frame} {meth : Method} {c : Code} {b : Nat} {D : va_G} {cy : Nat → ClassId} {G : Gm} {v0 : Nat} {u0 : Int32} {u1 : Nat} {S : St} {Q : Int32 → St → Prop} (C : CX p s m args meth c b D cy cX11_run RX11 5 (some .int)) (hE : s.heap.size + 0 ≤ b + G.2.2) (t_v0 : ok G 10 v0) (t_u1 : ok G 10 u1) (h : f_X11_run_197 G v0 u0 u1 Q S) : J p l e rm_X11_run s m args below meth c b D cy 5 (zI b D cy below args s G Q) 0 0 G S 197 [(0, .ref (b + v0))] [.int u0, .ref (b + u1)] := by
  unfold f_X11_run_197 at h
  refine jPutI C 200 (by decide +kernel : decode cX11_run 197 = .ok (.putfield 541, 3)) rfl hE t_u1 kX11 54 (by decide) rfl rfl (by decide) rfl wd_1208 rfl rfl rfl ?_
  refine jTopS (fun S1 e_S1 => ?_)
  have h := h S1 e_S1
  refine jB C [(.aload_n 0, 1, 0), (.dup, 1, 0)] 202 [(0, .ref (b + v0))] [.ref (b + v0), .ref (b + v0)] (by decide +kernel) rfl rfl ?_
  refine jGetI C 205 (by decide +kernel : decode cX11_run 202 = .ok (.getfield 538, 3)) rfl t_v0 kX11 53 (by decide) rfl rfl (by decide) wd_1207 ?_
  refine jB C [(.iconst 1, 1, 1), (.iadd, 1, 0)] 207 [(0, .ref (b + v0))] [.int ((S1.1 v0 53) + 1), .ref (b + v0)] (by decide +kernel) rfl rfl ?_
  refine jPutI C 210 (by decide +kernel : decode cX11_run 207 = .ok (.putfield 538, 3)) rfl hE t_v0 kX11 53 (by decide) rfl rfl (by decide) rfl wd_1207 rfl rfl rfl ?_
  refine jTopS (fun S2 e_S2 => ?_)
  have h := h S2 e_S2
  refine jB C [(.iconst 0, 1, 0)] 211 [(0, .ref (b + v0))] [.int 0] (by decide +kernel) rfl rfl ?_
  exact jRetI C (by decide +kernel : decode cX11_run 211 = .ok (.ireturn, 1)) (Nat.le_refl _) (Nat.le_refl _) ⟨rfl, h⟩
set_option maxHeartbeats 4000000 in
set_option maxRecDepth 100000 in
theorem j_X11_run_129 {p : Program} {l : Launch} {e : Env} {s : State} {m : MethodId} {args : Array Value} {below : List Frame} {meth : Method} {c : Code} {b : Nat} {D : va_G} {cy : Nat → ClassId} {G : Gm} {v0 : Nat} {v1 : Int32} {S : St} {Q : Int32 → St → Prop} (C : CX p s m args meth c b D cy cX11_run RX11 5 (some .int)) (hE : s.heap.size + 0 ≤ b + G.2.2) (t_v0 : ok G 10 v0) (h : f_X11_run_129 G v0 v1 Q S) : J p l e rm_X11_run s m args below meth c b D cy 5 (zI b D cy below args s G Q) 0 0 G S 129 [(0, .ref (b + v0)), (1, .int v1)] [] := by
  unfold f_X11_run_129 at h
  refine jB C [(.aload_n 0, 1, 0), (.iload_n 1, 1, 0), (.iconst 1, 1, 1), (.iadd, 1, 0)] 133 [(0, .ref (b + v0)), (1, .int v1)] [.int (v1 + 1), .ref (b + v0)] (by decide +kernel) rfl rfl ?_
  refine jcV_I C 136 (rest := []) (ok_X11_sumOf t_v0 h) (by decide +kernel : decode cX11_run 133 = .ok (.invokevirtual 544, 3)) rfl wd_1810 wd_1812 wp_165 wd_12 wd_1813 ⟨rfl, rfl⟩ hd_X11_sumOf ⟨Nat.le_of_ble_eq_true rfl, Nat.le_of_ble_eq_true rfl⟩ t_v0 kX11 (by decide) rfl rfl rfl (Nat.le_of_ble_eq_true rfl) ⟨Nat.zero_le _, Nat.zero_le _⟩ (fun r2 S1 h => ?_)
  refine jB C [(.istore_n 2, 1, 0), (.aload_n 0, 1, 0), (.iload_n 1, 1, 0), (.iconst 3, 1, 3), (.iadd, 1, 0)] 141 [(2, .int r2), (0, .ref (b + v0)), (1, .int v1)] [.int (v1 + 3), .ref (b + v0)] (by decide +kernel) rfl rfl ?_
  refine jcV_I C 144 (rest := []) (ok_X11_sumOf t_v0 h) (by decide +kernel : decode cX11_run 141 = .ok (.invokevirtual 544, 3)) rfl wd_1810 wd_1812 wp_165 wd_12 wd_1813 ⟨rfl, rfl⟩ hd_X11_sumOf ⟨Nat.le_of_ble_eq_true rfl, Nat.le_of_ble_eq_true rfl⟩ t_v0 kX11 (by decide) rfl rfl rfl (Nat.le_of_ble_eq_true rfl) ⟨Nat.zero_le _, Nat.zero_le _⟩ (fun r4 S3 h => ?_)
  refine jB C [(.istore_n 3, 1, 0), (.aload_n 0, 1, 0)] 146 [(3, .int r4), (2, .int r2), (0, .ref (b + v0)), (1, .int v1)] [.ref (b + v0)] (by decide +kernel) rfl rfl ?_
  refine jGetI C 149 (by decide +kernel : decode cX11_run 146 = .ok (.getfield 535, 3)) rfl t_v0 kX11 56 (by decide) rfl rfl (by decide) wd_1210 ?_
  refine jIf_eq C 152 155 (by decide +kernel : decode cX11_run 149 = .ok (.ifCond .eq 6, 3)) rfl rfl (fun c5 => ?_) (fun c5 => ?_)
  · have h := it1 h c5
    refine jB C [(.aload_n 0, 1, 0), (.aload_n 0, 1, 0)] 157 [(3, .int r4), (2, .int r2), (0, .ref (b + v0)), (1, .int v1)] [.ref (b + v0), .ref (b + v0)] (by decide +kernel) rfl rfl ?_
    obtain ⟨a6, e_a6, h⟩ := h
    refine jGetR C 160 (by decide +kernel : decode cX11_run 157 = .ok (.getfield 149, 3)) rfl t_v0 kX11 52 (by decide) rfl rfl (by decide) wd_1206 e_a6 rfl (fun t_a6 => ?_)
    refine jB C [(.iload_n 1, 1, 0)] 161 [(3, .int r4), (2, .int r2), (0, .ref (b + v0)), (1, .int v1)] [.int v1, .ref (b + a6), .ref (b + v0)] (by decide +kernel) rfl rfl ?_
    obtain ⟨y7, h⟩ := h
    refine jIald C 162 (by decide +kernel : decode cX11_run 161 = .ok (.iaload, 1)) rfl t_a6 y7 ?_
    refine jB C [(.iload_n 2, 1, 0), (.iload_n 3, 1, 0)] 164 [(3, .int r4), (2, .int r2), (0, .ref (b + v0)), (1, .int v1)] [.int r4, .int r2, .int (S3.1 a6 v1.toNatClampNeg), .ref (b + v0)] (by decide +kernel) rfl rfl ?_
    refine jcV_I C 167 (rest := []) (ok_X11_act t_v0 h) (by decide +kernel : decode cX11_run 164 = .ok (.invokevirtual 547, 3)) rfl wd_1814 wd_1816 wp_166 wd_12 wd_1817 ⟨rfl, rfl⟩ hd_X11_act ⟨Nat.le_of_ble_eq_true rfl, Nat.le_of_ble_eq_true rfl⟩ t_v0 kX11 (by decide) rfl rfl rfl (Nat.le_of_ble_eq_true rfl) ⟨Nat.zero_le _, Nat.zero_le _⟩ (fun r9 S8 h => ?_)
    refine jB C [(.istore 4, 2, 0), (.iload 4, 2, 0)] 171 [(4, .int r9), (3, .int r4), (2, .int r2), (0, .ref (b + v0)), (1, .int v1)] [.int r9] (by decide +kernel) rfl rfl ?_
    refine jIf_ge C 174 177 (by decide +kernel : decode cX11_run 171 = .ok (.ifCond .ge 6, 3)) rfl rfl (fun c10 => ?_) (fun c10 => ?_)
    · have h := it1 h c10
      refine jB C [(.aload_n 0, 1, 0), (.aload_n 0, 1, 0)] 179 [(4, .int r9), (3, .int r4), (2, .int r2), (0, .ref (b + v0)), (1, .int v1)] [.ref (b + v0), .ref (b + v0)] (by decide +kernel) rfl rfl ?_
      obtain ⟨a11, e_a11, h⟩ := h
      refine jGetR C 182 (by decide +kernel : decode cX11_run 179 = .ok (.getfield 149, 3)) rfl t_v0 kX11 52 (by decide) rfl rfl (by decide) wd_1206 e_a11 rfl (fun t_a11 => ?_)
      refine jB C [(.iload_n 1, 1, 0)] 183 [(4, .int r9), (3, .int r4), (2, .int r2), (0, .ref (b + v0)), (1, .int v1)] [.int v1, .ref (b + a11), .ref (b + v0)] (by decide +kernel) rfl rfl ?_
      obtain ⟨y12, h⟩ := h
      refine jIald C 184 (by decide +kernel : decode cX11_run 183 = .ok (.iaload, 1)) rfl t_a11 y12 ?_
      refine jB C [(.iconst 2, 1, 2)] 185 [(4, .int r9), (3, .int r4), (2, .int r2), (0, .ref (b + v0)), (1, .int v1)] [.int 2, .int (S8.1 a11 v1.toNatClampNeg), .ref (b + v0)] (by decide +kernel) rfl rfl ?_
      refine jIcmp_ne C 188 193 (by decide +kernel : decode cX11_run 185 = .ok (.if_icmp .ne 8, 3)) rfl rfl (fun c13 => ?_) (fun c13 => ?_)
      · have h := it2 h c13
        refine jB C [(.aload_n 0, 1, 0)] 194 [(4, .int r9), (3, .int r4), (2, .int r2), (0, .ref (b + v0)), (1, .int v1)] [.ref (b + v0), .ref (b + v0)] (by decide +kernel) rfl rfl ?_
        refine jGetI C 197 (by decide +kernel : decode cX11_run 194 = .ok (.getfield 541, 3)) rfl t_v0 kX11 54 (by decide) rfl rfl (by decide) wd_1208 ?_
        refine jSub [3] rfl ?_
        exact j_X11_run_197 C hE t_v0 t_v0 h
      · have h := it1 h c13
        refine jB C [(.iload 4, 2, 0)] 190 [(4, .int r9), (3, .int r4), (2, .int r2), (0, .ref (b + v0)), (1, .int v1)] [.int r9, .ref (b + v0)] (by decide +kernel) rfl rfl ?_
        refine jGoto C 197 (by decide +kernel : decode cX11_run 190 = .ok (.goto 7, 3)) rfl ?_
        refine jSub [3] rfl ?_
        exact j_X11_run_197 C hE t_v0 t_v0 h
    · have h := it2 h c10
      refine jB C [(.bipush (-3), 2, (-3))] 176 [(4, .int r9), (3, .int r4), (2, .int r2), (0, .ref (b + v0)), (1, .int v1)] [.int (-3)] (by decide +kernel) rfl rfl ?_
      exact jRetI C (by decide +kernel : decode cX11_run 176 = .ok (.ireturn, 1)) (Nat.le_refl _) (Nat.le_refl _) ⟨rfl, h⟩
  · have h := it2 h c5
    refine jB C [(.bipush (-3), 2, (-3))] 154 [(3, .int r4), (2, .int r2), (0, .ref (b + v0)), (1, .int v1)] [.int (-3)] (by decide +kernel) rfl rfl ?_
    exact jRetI C (by decide +kernel : decode cX11_run 154 = .ok (.ireturn, 1)) (Nat.le_refl _) (Nat.le_refl _) ⟨rfl, h⟩
set_option maxHeartbeats 4000000 in
set_option maxRecDepth 100000 in
theorem j_X11_run_51_n {p : Program} {l : Launch} {e : Env} {s : State} {m : MethodId} {args : Array Value} {below : List Frame} {meth : Method} {c : Code} {b : Nat} {D : va_G} {cy : Nat → ClassId} {G : Gm} {v0 : Nat} {v1 : Int32} {Q : Int32 → St → Prop} (C : CX p s m args meth c b D cy cX11_run RX11 5 (some .int)) (hE : s.heap.size + 0 ≤ b + G.2.2) (t_v0 : ok G 10 v0) : ∀ k (v2 : Int32) S, f_X11_run_51_n G v0 v1 Q k v2 S → J p l e rm_X11_run s m args below meth c b D cy 5 (zI b D cy below args s G Q) 0 0 G S 51 [(0, .ref (b + v0)), (1, .int v1), (2, .int v2)] [] := by
  intro k
  induction k with
  | zero => intro v2 S h; exact h.elim
  | succ k ih =>
    intro v2 S h
    unfold f_X11_run_51_n at h
    refine jB C [(.iload_n 2, 1, 0), (.aload_n 0, 1, 0)] 53 [(0, .ref (b + v0)), (1, .int v1), (2, .int v2)] [.ref (b + v0), .int v2] (by decide +kernel) rfl rfl ?_
    obtain ⟨a1, e_a1, h⟩ := h
    refine jGetR C 56 (by decide +kernel : decode cX11_run 53 = .ok (.getfield 16, 3)) rfl t_v0 kX11 4 (by decide) rfl rfl (by decide) wd_1158 e_a1 rfl (fun t_a1 => ?_)
    refine jB C [(.iconst 0, 1, 0)] 57 [(0, .ref (b + v0)), (1, .int v1), (2, .int v2)] [.int 0, .ref (b + a1), .int v2] (by decide +kernel) rfl rfl ?_
    obtain ⟨y2, h⟩ := h
    refine jIald C 58 (by decide +kernel : decode cX11_run 57 = .ok (.iaload, 1)) rfl t_a1 y2 ?_
    refine jIcmp_ge C 61 83 (by decide +kernel : decode cX11_run 58 = .ok (.if_icmp .ge 25, 3)) rfl rfl (fun c3 => ?_) (fun c3 => ?_)
    · have h := it1 h c3
      refine jB C [(.aload_n 0, 1, 0), (.iconst 0, 1, 0)] 85 [(0, .ref (b + v0)), (1, .int v1), (2, .int v2)] [.int 0, .ref (b + v0)] (by decide +kernel) rfl rfl ?_
      refine jPutI C 88 (by decide +kernel : decode cX11_run 85 = .ok (.putfield 535, 3)) rfl hE t_v0 kX11 56 (by decide) rfl rfl (by decide) rfl wd_1210 rfl (by decide) (by decide) ?_
      refine jTopS (fun S4 e_S4 => ?_)
      have h := h S4 e_S4
      refine jB C [(.aload_n 0, 1, 0)] 89 [(0, .ref (b + v0)), (1, .int v1), (2, .int v2)] [.ref (b + v0)] (by decide +kernel) rfl rfl ?_
      obtain ⟨a5, e_a5, h⟩ := h
      refine jGetR C 92 (by decide +kernel : decode cX11_run 89 = .ok (.getfield 149, 3)) rfl t_v0 kX11 52 (by decide) rfl rfl (by decide) wd_1206 e_a5 rfl (fun t_a5 => ?_)
      refine jB C [(.iload_n 1, 1, 0), (.iconst 5, 1, 5), (.iadd, 1, 0)] 95 [(0, .ref (b + v0)), (1, .int v1), (2, .int v2)] [.int (v1 + 5), .ref (b + a5)] (by decide +kernel) rfl rfl ?_
      obtain ⟨y6, h⟩ := h
      refine jIald C 96 (by decide +kernel : decode cX11_run 95 = .ok (.iaload, 1)) rfl t_a5 y6 ?_
      refine jB C [(.aload_n 0, 1, 0)] 97 [(0, .ref (b + v0)), (1, .int v1), (2, .int v2)] [.ref (b + v0), .int (S4.1 a5 (v1 + 5).toNatClampNeg)] (by decide +kernel) rfl rfl ?_
      obtain ⟨a7, e_a7, h⟩ := h
      refine jGetR C 100 (by decide +kernel : decode cX11_run 97 = .ok (.getfield 149, 3)) rfl t_v0 kX11 52 (by decide) rfl rfl (by decide) wd_1206 e_a7 rfl (fun t_a7 => ?_)
      refine jB C [(.iload_n 1, 1, 0), (.bipush 6, 2, 6), (.iadd, 1, 0)] 104 [(0, .ref (b + v0)), (1, .int v1), (2, .int v2)] [.int (v1 + 6), .ref (b + a7), .int (S4.1 a5 (v1 + 5).toNatClampNeg)] (by decide +kernel) rfl rfl ?_
      obtain ⟨y8, h⟩ := h
      refine jIald C 105 (by decide +kernel : decode cX11_run 104 = .ok (.iaload, 1)) rfl t_a7 y8 ?_
      refine jIcmp_ge C 108 129 (by decide +kernel : decode cX11_run 105 = .ok (.if_icmp .ge 24, 3)) rfl rfl (fun c9 => ?_) (fun c9 => ?_)
      · have h := it1 h c9
        refine jSub [0, 1] rfl ?_
        exact j_X11_run_129 C hE t_v0 h
      · have h := it2 h c9
        refine jB C [(.aload_n 0, 1, 0), (.iload_n 1, 1, 0), (.iconst 5, 1, 5), (.iadd, 1, 0)] 112 [(0, .ref (b + v0)), (1, .int v1), (2, .int v2)] [.int (v1 + 5), .ref (b + v0)] (by decide +kernel) rfl rfl ?_
        refine jcV_I C 115 (rest := []) (ok_X11_sumOf t_v0 h) (by decide +kernel : decode cX11_run 112 = .ok (.invokevirtual 544, 3)) rfl wd_1810 wd_1812 wp_165 wd_12 wd_1813 ⟨rfl, rfl⟩ hd_X11_sumOf ⟨Nat.le_of_ble_eq_true rfl, Nat.le_of_ble_eq_true rfl⟩ t_v0 kX11 (by decide) rfl rfl rfl (Nat.le_of_ble_eq_true rfl) ⟨Nat.zero_le _, Nat.zero_le _⟩ (fun r11 S10 h => ?_)
        refine jB C [(.istore_n 2, 1, 0), (.aload_n 0, 1, 0)] 117 [(2, .int r11), (0, .ref (b + v0)), (1, .int v1)] [.ref (b + v0)] (by decide +kernel) rfl rfl ?_
        refine jGetI C 120 (by decide +kernel : decode cX11_run 117 = .ok (.getfield 535, 3)) rfl t_v0 kX11 56 (by decide) rfl rfl (by decide) wd_1210 ?_
        refine jIf_ne C 123 127 (by decide +kernel : decode cX11_run 120 = .ok (.ifCond .ne 7, 3)) rfl rfl (fun c12 => ?_) (fun c12 => ?_)
        · have h := it2 h c12
          refine jB C [(.iconst 0, 1, 0)] 128 [(2, .int r11), (0, .ref (b + v0)), (1, .int v1)] [.int 0] (by decide +kernel) rfl rfl ?_
          exact jRetI C (by decide +kernel : decode cX11_run 128 = .ok (.ireturn, 1)) (Nat.le_refl _) (Nat.le_refl _) ⟨rfl, h⟩
        · have h := it1 h c12
          refine jB C [(.iload_n 2, 1, 0)] 124 [(2, .int r11), (0, .ref (b + v0)), (1, .int v1)] [.int r11] (by decide +kernel) rfl rfl ?_
          refine jIf_ne C 127 129 (by decide +kernel : decode cX11_run 124 = .ok (.ifCond .ne 5, 3)) rfl rfl (fun c13 => ?_) (fun c13 => ?_)
          · have h := it2 h c13
            refine jSub [1, 2] rfl ?_
            exact j_X11_run_129 C hE t_v0 h
          · have h := it1 h c13
            refine jB C [(.iconst 0, 1, 0)] 128 [(2, .int r11), (0, .ref (b + v0)), (1, .int v1)] [.int 0] (by decide +kernel) rfl rfl ?_
            exact jRetI C (by decide +kernel : decode cX11_run 128 = .ok (.ireturn, 1)) (Nat.le_refl _) (Nat.le_refl _) ⟨rfl, h⟩
    · have h := it2 h c3
      refine jB C [(.aload_n 0, 1, 0)] 62 [(0, .ref (b + v0)), (1, .int v1), (2, .int v2)] [.ref (b + v0)] (by decide +kernel) rfl rfl ?_
      obtain ⟨a14, e_a14, h⟩ := h
      refine jGetR C 65 (by decide +kernel : decode cX11_run 62 = .ok (.getfield 108, 3)) rfl t_v0 kX11 38 (by decide) rfl rfl (by decide) wd_1192 e_a14 rfl (fun t_a14 => ?_)
      refine jB C [(.iload_n 2, 1, 0), (.aload_n 0, 1, 0), (.iload_n 2, 1, 0), (.aload_n 0, 1, 0), (.iload_n 2, 1, 0)] 70 [(0, .ref (b + v0)), (1, .int v1), (2, .int v2)] [.int v2, .ref (b + v0), .int v2, .ref (b + v0), .int v2, .ref (b + a14)] (by decide +kernel) rfl rfl ?_
      refine jcV_I C 73 (rest := [.int v2, .ref (b + v0), .int v2, .ref (b + a14)]) (ok_X11_sightOf t_v0 h) (by decide +kernel : decode cX11_run 70 = .ok (.invokevirtual 215, 3)) rfl wd_1386 wd_1388 wp_105 wd_12 wd_1389 ⟨rfl, rfl⟩ hd_X11_sightOf ⟨Nat.le_of_ble_eq_true rfl, Nat.le_of_ble_eq_true rfl⟩ t_v0 kX11 (by decide) rfl rfl rfl (Nat.le_of_ble_eq_true rfl) ⟨Nat.zero_le _, Nat.zero_le _⟩ (fun r16 S15 h => ?_)
      refine jcV_I C 76 (rest := [.int v2, .ref (b + a14)]) (ok_X11_doesOf t_v0 h) (by decide +kernel : decode cX11_run 73 = .ok (.invokevirtual 218, 3)) rfl wd_1394 wd_1396 wp_107 wd_12 wd_1397 ⟨rfl, rfl⟩ hd_X11_doesOf ⟨Nat.le_of_ble_eq_true rfl, Nat.le_of_ble_eq_true rfl⟩ t_v0 kX11 (by decide) rfl rfl rfl (Nat.le_of_ble_eq_true rfl) ⟨Nat.zero_le _, Nat.zero_le _⟩ (fun r18 S17 h => ?_)
      obtain ⟨y19, h⟩ := h
      refine jIast C 77 (by decide +kernel : decode cX11_run 76 = .ok (.iastore, 1)) rfl hE t_a14 y19 ?_
      refine jTopS (fun S20 e_S20 => ?_)
      have h := h S20 e_S20
      refine jB C [(.iinc 2 1, 3, 1)] 80 [(2, .int (v2 + 1)), (0, .ref (b + v0)), (1, .int v1)] [] (by decide +kernel) rfl rfl ?_
      refine jGoto C 51 (by decide +kernel : decode cX11_run 80 = .ok (.goto (-29), 3)) rfl ?_
      refine jSub [1, 2, 0] rfl ?_
      exact ih (v2 + 1) S20 h
theorem j_X11_run_51 {p : Program} {l : Launch} {e : Env} {s : State} {m : MethodId} {args : Array Value} {below : List Frame} {meth : Method} {c : Code} {b : Nat} {D : va_G} {cy : Nat → ClassId} {G : Gm} {v0 : Nat} {v1 : Int32} {v2 : Int32} {S : St} {Q : Int32 → St → Prop} (C : CX p s m args meth c b D cy cX11_run RX11 5 (some .int)) (hE : s.heap.size + 0 ≤ b + G.2.2) (t_v0 : ok G 10 v0) (h : f_X11_run_51 G v0 v1 Q v2 S) : J p l e rm_X11_run s m args below meth c b D cy 5 (zI b D cy below args s G Q) 0 0 G S 51 [(0, .ref (b + v0)), (1, .int v1), (2, .int v2)] [] := by
  obtain ⟨k, h⟩ := h
  exact j_X11_run_51_n C hE t_v0 k v2 S h
set_option maxHeartbeats 4000000 in
set_option maxRecDepth 100000 in
theorem j_X11_run {p : Program} {l : Launch} {e : Env} {s : State} {m : MethodId} {args : Array Value} {below : List Frame} {meth : Method} {c : Code} {b : Nat} {D : va_G} {cy : Nat → ClassId} {G : Gm} {v0 : Nat} {v1 : Int32} {S : St} {Q : Int32 → St → Prop} (C : CX p s m args meth c b D cy cX11_run RX11 5 (some .int)) (hE : s.heap.size + 0 ≤ b + G.2.2) (t_v0 : ok G 10 v0) (h : f_X11_run G v0 v1 Q S) : J p l e rm_X11_run s m args below meth c b D cy 5 (zI b D cy below args s G Q) 0 0 G S 0 [(0, .ref (b + v0)), (1, .int v1)] [] := by
  unfold f_X11_run at h
  refine jB C [(.aload_n 0, 1, 0)] 1 [(0, .ref (b + v0)), (1, .int v1)] [.ref (b + v0)] (by decide +kernel) rfl rfl ?_
  obtain ⟨a1, e_a1, h⟩ := h
  refine jGetR C 4 (by decide +kernel : decode cX11_run 1 = .ok (.getfield 105, 3)) rfl t_v0 kX11 37 (by decide) rfl rfl (by decide) wd_1191 e_a1 rfl (fun t_a1 => ?_)
  refine jB C [(.iconst 1, 1, 1), (.aload_n 0, 1, 0)] 6 [(0, .ref (b + v0)), (1, .int v1)] [.ref (b + v0), .int 1, .ref (b + a1)] (by decide +kernel) rfl rfl ?_
  obtain ⟨a2, e_a2, h⟩ := h
  refine jGetR C 9 (by decide +kernel : decode cX11_run 6 = .ok (.getfield 16, 3)) rfl t_v0 kX11 4 (by decide) rfl rfl (by decide) wd_1158 e_a2 rfl (fun t_a2 => ?_)
  refine jB C [(.iconst 4, 1, 4)] 10 [(0, .ref (b + v0)), (1, .int v1)] [.int 4, .ref (b + a2), .int 1, .ref (b + a1)] (by decide +kernel) rfl rfl ?_
  obtain ⟨y3, h⟩ := h
  refine jIald C 11 (by decide +kernel : decode cX11_run 10 = .ok (.iaload, 1)) rfl t_a2 y3 ?_
  refine jB C [(.i2l, 1, 0)] 12 [(0, .ref (b + v0)), (1, .int v1)] [.long ((S.1 a2 (4 : Int32).toNatClampNeg).toInt64), .int 1, .ref (b + a1)] (by decide +kernel) rfl rfl ?_
  obtain ⟨y4, h⟩ := h
  refine jLast C 13 (by decide +kernel : decode cX11_run 12 = .ok (.lastore, 1)) rfl hE t_a1 y4 ?_
  refine jTopS (fun S5 e_S5 => ?_)
  have h := h S5 e_S5
  refine jB C [(.aload_n 0, 1, 0)] 14 [(0, .ref (b + v0)), (1, .int v1)] [.ref (b + v0)] (by decide +kernel) rfl rfl ?_
  obtain ⟨a6, e_a6, h⟩ := h
  refine jGetR C 17 (by decide +kernel : decode cX11_run 14 = .ok (.getfield 105, 3)) rfl t_v0 kX11 37 (by decide) rfl rfl (by decide) wd_1191 e_a6 rfl (fun t_a6 => ?_)
  refine jB C [(.iconst 2, 1, 2), (.aload_n 0, 1, 0)] 19 [(0, .ref (b + v0)), (1, .int v1)] [.ref (b + v0), .int 2, .ref (b + a6)] (by decide +kernel) rfl rfl ?_
  refine jGetI C 22 (by decide +kernel : decode cX11_run 19 = .ok (.getfield 538, 3)) rfl t_v0 kX11 53 (by decide) rfl rfl (by decide) wd_1207 ?_
  refine jB C [(.i2l, 1, 0)] 23 [(0, .ref (b + v0)), (1, .int v1)] [.long ((S5.1 v0 53).toInt64), .int 2, .ref (b + a6)] (by decide +kernel) rfl rfl ?_
  obtain ⟨y7, h⟩ := h
  refine jLast C 24 (by decide +kernel : decode cX11_run 23 = .ok (.lastore, 1)) rfl hE t_a6 y7 ?_
  refine jTopS (fun S8 e_S8 => ?_)
  have h := h S8 e_S8
  refine jB C [(.aload_n 0, 1, 0)] 25 [(0, .ref (b + v0)), (1, .int v1)] [.ref (b + v0)] (by decide +kernel) rfl rfl ?_
  obtain ⟨a9, e_a9, h⟩ := h
  refine jGetR C 28 (by decide +kernel : decode cX11_run 25 = .ok (.getfield 105, 3)) rfl t_v0 kX11 37 (by decide) rfl rfl (by decide) wd_1191 e_a9 rfl (fun t_a9 => ?_)
  refine jB C [(.iconst 3, 1, 3), (.aload_n 0, 1, 0)] 30 [(0, .ref (b + v0)), (1, .int v1)] [.ref (b + v0), .int 3, .ref (b + a9)] (by decide +kernel) rfl rfl ?_
  refine jGetI C 33 (by decide +kernel : decode cX11_run 30 = .ok (.getfield 541, 3)) rfl t_v0 kX11 54 (by decide) rfl rfl (by decide) wd_1208 ?_
  refine jB C [(.i2l, 1, 0)] 34 [(0, .ref (b + v0)), (1, .int v1)] [.long ((S8.1 v0 54).toInt64), .int 3, .ref (b + a9)] (by decide +kernel) rfl rfl ?_
  obtain ⟨y10, h⟩ := h
  refine jLast C 35 (by decide +kernel : decode cX11_run 34 = .ok (.lastore, 1)) rfl hE t_a9 y10 ?_
  refine jTopS (fun S11 e_S11 => ?_)
  have h := h S11 e_S11
  refine jB C [(.aload_n 0, 1, 0)] 36 [(0, .ref (b + v0)), (1, .int v1)] [.ref (b + v0)] (by decide +kernel) rfl rfl ?_
  obtain ⟨a12, e_a12, h⟩ := h
  refine jGetR C 39 (by decide +kernel : decode cX11_run 36 = .ok (.getfield 105, 3)) rfl t_v0 kX11 37 (by decide) rfl rfl (by decide) wd_1191 e_a12 rfl (fun t_a12 => ?_)
  refine jB C [(.iconst 4, 1, 4), (.aload_n 0, 1, 0)] 41 [(0, .ref (b + v0)), (1, .int v1)] [.ref (b + v0), .int 4, .ref (b + a12)] (by decide +kernel) rfl rfl ?_
  obtain ⟨a13, e_a13, h⟩ := h
  refine jGetR C 44 (by decide +kernel : decode cX11_run 41 = .ok (.getfield 16, 3)) rfl t_v0 kX11 4 (by decide) rfl rfl (by decide) wd_1158 e_a13 rfl (fun t_a13 => ?_)
  refine jB C [(.bipush 7, 2, 7)] 46 [(0, .ref (b + v0)), (1, .int v1)] [.int 7, .ref (b + a13), .int 4, .ref (b + a12)] (by decide +kernel) rfl rfl ?_
  obtain ⟨y14, h⟩ := h
  refine jIald C 47 (by decide +kernel : decode cX11_run 46 = .ok (.iaload, 1)) rfl t_a13 y14 ?_
  refine jB C [(.i2l, 1, 0)] 48 [(0, .ref (b + v0)), (1, .int v1)] [.long ((S11.1 a13 (7 : Int32).toNatClampNeg).toInt64), .int 4, .ref (b + a12)] (by decide +kernel) rfl rfl ?_
  obtain ⟨y15, h⟩ := h
  refine jLast C 49 (by decide +kernel : decode cX11_run 48 = .ok (.lastore, 1)) rfl hE t_a12 y15 ?_
  refine jTopS (fun S16 e_S16 => ?_)
  have h := h S16 e_S16
  refine jB C [(.iconst 0, 1, 0), (.istore_n 2, 1, 0)] 51 [(2, .int 0), (0, .ref (b + v0)), (1, .int v1)] [] (by decide +kernel) rfl rfl ?_
  refine jSub [1, 2, 0] rfl ?_
  exact j_X11_run_51 C hE t_v0 h
theorem ok_X11_run {G : Gm} {v0 : Nat} {v1 : Int32} {S : St} {Q : Int32 → St → Prop}  (t_v0 : ok G 10 v0) (h : f_X11_run G v0 v1 Q S) : MT yX11_run cX11_run 5 (some .int) rm_X11_run 0 0 (fun b => [.ref (b + v0), .int v1]) G S (QI (fun r G1 S1 => G1 = G ∧ Q r S1)) := MT.ofJ (by decide +kernel) (fun b => [(0, .ref (b + v0)), (1, .int v1)]) (fun b => rfl) (fun b => Nat.le_of_ble_eq_true rfl) (fun l b D cy p e s m below meth c C hE hn => j_X11_run C hE t_v0 h)
theorem hd_X11_run : yX11_run.cls ≠ "java/lang/invoke/MethodHandle" ∧ yX11_run.cls ≠ "java/lang/invoke/VarHandle" ∧ (parseMethodDescriptor yX11_run.desc).map (fun d => d.parameters.length) = some 1 := by decide +kernel
