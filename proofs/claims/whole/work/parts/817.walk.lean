abbrev rm_X11_orders : Room := { frames := 12, cells := 0, slots := 0, locals := 280 }
set_option maxHeartbeats 4000000 in
set_option maxRecDepth 100000 in
theorem j_X11_orders_150_n {p : Program} {l : Launch} {e : Env} {s : State} {m : MethodId} {args : Array Value} {below : List Frame} {meth : Method} {c : Code} {b : Nat} {D : va_G} {cy : Nat → ClassId} {G : Gm} {k140 : Int32 → St → Prop} {v0 : Nat} {v1 : Int32} {v2 : Int32} {Q : Int32 → St → Prop} (C : CX p s m args meth c b D cy cX11_orders RX11 4 (some .int)) (hE : s.heap.size + 0 ≤ b + G.2.2) (t_v0 : ok G 10 v0) (hk140 : ∀ v2' S, k140 v2' S → J p l e rm_X11_orders s m args below meth c b D cy 4 (zI b D cy below args s G Q) 0 0 G S 140 [(0, .ref (b + v0)), (1, .int v1), (2, .int (v2'))] []) : ∀ k (v3 : Int32) S, f_X11_orders_150_n G k140 v0 v1 v2 Q k v3 S → J p l e rm_X11_orders s m args below meth c b D cy 4 (zI b D cy below args s G Q) 0 0 G S 150 [(0, .ref (b + v0)), (1, .int v1), (2, .int v2), (3, .int v3)] [] := by
  intro k
  induction k with
  | zero => intro v3 S h; exact h.elim
  | succ k ih =>
    intro v3 S h
    unfold f_X11_orders_150_n at h
    refine jB C [(.iload_n 3, 1, 0), (.aload_n 0, 1, 0)] 152 [(0, .ref (b + v0)), (1, .int v1), (2, .int v2), (3, .int v3)] [.ref (b + v0), .int v3] (by decide +kernel) rfl rfl ?_
    obtain ⟨a1, e_a1, h⟩ := h
    refine jGetR C 155 (by decide +kernel : decode cX11_orders 152 = .ok (.getfield 149, 3)) rfl t_v0 kX11 52 (by decide) rfl rfl (by decide) wd_1206 e_a1 rfl (fun t_a1 => ?_)
    refine jB C [(.bipush 8, 2, 8), (.iload_n 2, 1, 0), (.imul, 1, 0), (.bipush 7, 2, 7), (.iadd, 1, 0)] 162 [(0, .ref (b + v0)), (1, .int v1), (2, .int v2), (3, .int v3)] [.int ((8 * v2) + 7), .ref (b + a1), .int v3] (by decide +kernel) rfl rfl ?_
    obtain ⟨y2, h⟩ := h
    refine jIald C 163 (by decide +kernel : decode cX11_orders 162 = .ok (.iaload, 1)) rfl t_a1 y2 ?_
    refine jIcmp_ge C 166 200 (by decide +kernel : decode cX11_orders 163 = .ok (.if_icmp .ge 37, 3)) rfl rfl (fun c3 => ?_) (fun c3 => ?_)
    · have h := it1 h c3
      refine jB C [(.iinc 2 1, 3, 1)] 203 [(2, .int (v2 + 1)), (0, .ref (b + v0)), (1, .int v1), (3, .int v3)] [] (by decide +kernel) rfl rfl ?_
      refine jGoto C 140 (by decide +kernel : decode cX11_orders 203 = .ok (.goto (-63), 3)) rfl ?_
      refine jSub [1, 2, 0] rfl ?_
      exact hk140 (v2 + 1) S h
    · have h := it2 h c3
      refine jB C [(.aload_n 0, 1, 0), (.bipush 8, 2, 8), (.iload_n 2, 1, 0), (.imul, 1, 0)] 171 [(0, .ref (b + v0)), (1, .int v1), (2, .int v2), (3, .int v3)] [.int (8 * v2), .ref (b + v0)] (by decide +kernel) rfl rfl ?_
      refine jcV_I C 174 (rest := []) (ok_X11_run t_v0 h) (by decide +kernel : decode cX11_orders 171 = .ok (.invokevirtual 553, 3)) rfl wd_1806 wd_1808 wp_164 wd_12 wd_1809 ⟨rfl, rfl⟩ hd_X11_run ⟨Nat.le_of_ble_eq_true rfl, Nat.le_of_ble_eq_true rfl⟩ t_v0 kX11 (by decide) rfl rfl rfl (Nat.le_of_ble_eq_true rfl) ⟨Nat.zero_le _, Nat.zero_le _⟩ (fun r5 S4 h => ?_)
      refine jIf_ge C 177 194 (by decide +kernel : decode cX11_orders 174 = .ok (.ifCond .ge 20, 3)) rfl rfl (fun c6 => ?_) (fun c6 => ?_)
      · have h := it1 h c6
        refine jB C [(.iinc 3 1, 3, 1)] 197 [(3, .int (v3 + 1)), (0, .ref (b + v0)), (1, .int v1), (2, .int v2)] [] (by decide +kernel) rfl rfl ?_
        refine jGoto C 150 (by decide +kernel : decode cX11_orders 197 = .ok (.goto (-47), 3)) rfl ?_
        refine jSub [1, 2, 3, 0] rfl ?_
        exact ih (v3 + 1) S4 h
      · have h := it2 h c6
        refine jB C [(.aload_n 0, 1, 0), (.iload_n 1, 1, 0)] 179 [(0, .ref (b + v0)), (1, .int v1), (2, .int v2), (3, .int v3)] [.int v1, .ref (b + v0)] (by decide +kernel) rfl rfl ?_
        refine jcV_V C 182 (rest := []) (ok_X11_giveBack t_v0 h) (by decide +kernel : decode cX11_orders 179 = .ok (.invokevirtual 556, 3)) rfl wd_1818 wd_1820 wp_167 wd_12 wd_1821 ⟨rfl, rfl⟩ hd_X11_giveBack ⟨Nat.le_of_ble_eq_true rfl, Nat.le_of_ble_eq_true rfl⟩ t_v0 kX11 (by decide) rfl rfl rfl (Nat.le_of_ble_eq_true rfl) ⟨Nat.zero_le _, Nat.zero_le _⟩ (fun S7 h => ?_)
        refine jB C [(.aload_n 0, 1, 0), (.iload_n 2, 1, 0)] 184 [(0, .ref (b + v0)), (1, .int v1), (2, .int v2), (3, .int v3)] [.int v2, .ref (b + v0)] (by decide +kernel) rfl rfl ?_
        refine jPutI C 187 (by decide +kernel : decode cX11_orders 184 = .ok (.putfield 152, 3)) rfl hE t_v0 kX11 55 (by decide) rfl rfl (by decide) rfl wd_1209 rfl rfl rfl ?_
        refine jTopS (fun S8 e_S8 => ?_)
        have h := h S8 e_S8
        refine jB C [(.aload_n 0, 1, 0), (.bipush (-3), 2, (-3))] 190 [(0, .ref (b + v0)), (1, .int v1), (2, .int v2), (3, .int v3)] [.int (-3), .ref (b + v0)] (by decide +kernel) rfl rfl ?_
        refine jcV_I C 193 (rest := []) (ok_X11_tell t_v0 h) (by decide +kernel : decode cX11_orders 190 = .ok (.invokevirtual 174, 3)) rfl wd_1340 wd_1342 wp_99 wd_12 wd_1343 ⟨rfl, rfl⟩ hd_X11_tell ⟨Nat.le_of_ble_eq_true rfl, Nat.le_of_ble_eq_true rfl⟩ t_v0 kX11 (by decide) rfl rfl rfl (Nat.le_of_ble_eq_true rfl) ⟨Nat.zero_le _, Nat.zero_le _⟩ (fun r10 S9 h => ?_)
        exact jRetI C (by decide +kernel : decode cX11_orders 193 = .ok (.ireturn, 1)) (Nat.le_refl _) (Nat.le_refl _) ⟨rfl, h⟩
theorem j_X11_orders_150 {p : Program} {l : Launch} {e : Env} {s : State} {m : MethodId} {args : Array Value} {below : List Frame} {meth : Method} {c : Code} {b : Nat} {D : va_G} {cy : Nat → ClassId} {G : Gm} {k140 : Int32 → St → Prop} {v0 : Nat} {v1 : Int32} {v2 : Int32} {v3 : Int32} {S : St} {Q : Int32 → St → Prop} (C : CX p s m args meth c b D cy cX11_orders RX11 4 (some .int)) (hE : s.heap.size + 0 ≤ b + G.2.2) (t_v0 : ok G 10 v0) (hk140 : ∀ v2' S, k140 v2' S → J p l e rm_X11_orders s m args below meth c b D cy 4 (zI b D cy below args s G Q) 0 0 G S 140 [(0, .ref (b + v0)), (1, .int v1), (2, .int (v2'))] []) (h : f_X11_orders_150 G k140 v0 v1 v2 Q v3 S) : J p l e rm_X11_orders s m args below meth c b D cy 4 (zI b D cy below args s G Q) 0 0 G S 150 [(0, .ref (b + v0)), (1, .int v1), (2, .int v2), (3, .int v3)] [] := by
  obtain ⟨k, h⟩ := h
  exact j_X11_orders_150_n C hE t_v0 hk140 k v3 S h
set_option maxHeartbeats 4000000 in
set_option maxRecDepth 100000 in
theorem j_X11_orders_140_n {p : Program} {l : Launch} {e : Env} {s : State} {m : MethodId} {args : Array Value} {below : List Frame} {meth : Method} {c : Code} {b : Nat} {D : va_G} {cy : Nat → ClassId} {G : Gm} {v0 : Nat} {v1 : Int32} {Q : Int32 → St → Prop} (C : CX p s m args meth c b D cy cX11_orders RX11 4 (some .int)) (hE : s.heap.size + 0 ≤ b + G.2.2) (t_v0 : ok G 10 v0) : ∀ k (v2 : Int32) S, f_X11_orders_140_n G v0 v1 Q k v2 S → J p l e rm_X11_orders s m args below meth c b D cy 4 (zI b D cy below args s G Q) 0 0 G S 140 [(0, .ref (b + v0)), (1, .int v1), (2, .int v2)] [] := by
  intro k
  induction k with
  | zero => intro v2 S h; exact h.elim
  | succ k ih =>
    intro v2 S h
    unfold f_X11_orders_140_n at h
    refine jB C [(.iload_n 2, 1, 0), (.aload_n 0, 1, 0)] 142 [(0, .ref (b + v0)), (1, .int v1), (2, .int v2)] [.ref (b + v0), .int v2] (by decide +kernel) rfl rfl ?_
    refine jGetI C 145 (by decide +kernel : decode cX11_orders 142 = .ok (.getfield 399, 3)) rfl t_v0 kX11 22 (by decide) rfl rfl (by decide) wd_1176 ?_
    refine jIcmp_ge C 148 206 (by decide +kernel : decode cX11_orders 145 = .ok (.if_icmp .ge 61, 3)) rfl rfl (fun c1 => ?_) (fun c1 => ?_)
    · have h := it1 h c1
      refine jB C [(.aload_n 0, 1, 0), (.aload_n 0, 1, 0)] 208 [(0, .ref (b + v0)), (1, .int v1), (2, .int v2)] [.ref (b + v0), .ref (b + v0)] (by decide +kernel) rfl rfl ?_
      refine jGetI C 211 (by decide +kernel : decode cX11_orders 208 = .ok (.getfield 538, 3)) rfl t_v0 kX11 53 (by decide) rfl rfl (by decide) wd_1207 ?_
      refine jcV_I C 214 (rest := []) (ok_X11_tell t_v0 h) (by decide +kernel : decode cX11_orders 211 = .ok (.invokevirtual 174, 3)) rfl wd_1340 wd_1342 wp_99 wd_12 wd_1343 ⟨rfl, rfl⟩ hd_X11_tell ⟨Nat.le_of_ble_eq_true rfl, Nat.le_of_ble_eq_true rfl⟩ t_v0 kX11 (by decide) rfl rfl rfl (Nat.le_of_ble_eq_true rfl) ⟨Nat.zero_le _, Nat.zero_le _⟩ (fun r3 S2 h => ?_)
      exact jRetI C (by decide +kernel : decode cX11_orders 214 = .ok (.ireturn, 1)) (Nat.le_refl _) (Nat.le_refl _) ⟨rfl, h⟩
    · have h := it2 h c1
      refine jB C [(.iconst 0, 1, 0), (.istore_n 3, 1, 0)] 150 [(3, .int 0), (0, .ref (b + v0)), (1, .int v1), (2, .int v2)] [] (by decide +kernel) rfl rfl ?_
      refine jSub [1, 2, 3, 0] rfl ?_
      exact j_X11_orders_150 C hE t_v0 ih h
theorem j_X11_orders_140 {p : Program} {l : Launch} {e : Env} {s : State} {m : MethodId} {args : Array Value} {below : List Frame} {meth : Method} {c : Code} {b : Nat} {D : va_G} {cy : Nat → ClassId} {G : Gm} {v0 : Nat} {v1 : Int32} {v2 : Int32} {S : St} {Q : Int32 → St → Prop} (C : CX p s m args meth c b D cy cX11_orders RX11 4 (some .int)) (hE : s.heap.size + 0 ≤ b + G.2.2) (t_v0 : ok G 10 v0) (h : f_X11_orders_140 G v0 v1 Q v2 S) : J p l e rm_X11_orders s m args below meth c b D cy 4 (zI b D cy below args s G Q) 0 0 G S 140 [(0, .ref (b + v0)), (1, .int v1), (2, .int v2)] [] := by
  obtain ⟨k, h⟩ := h
  exact j_X11_orders_140_n C hE t_v0 k v2 S h
set_option maxHeartbeats 4000000 in
set_option maxRecDepth 100000 in
theorem j_X11_orders_104_n {p : Program} {l : Launch} {e : Env} {s : State} {m : MethodId} {args : Array Value} {below : List Frame} {meth : Method} {c : Code} {b : Nat} {D : va_G} {cy : Nat → ClassId} {G : Gm} {v0 : Nat} {v1 : Int32} {Q : Int32 → St → Prop} (C : CX p s m args meth c b D cy cX11_orders RX11 4 (some .int)) (hE : s.heap.size + 0 ≤ b + G.2.2) (t_v0 : ok G 10 v0) : ∀ k (v2 : Int32) S, f_X11_orders_104_n G v0 v1 Q k v2 S → J p l e rm_X11_orders s m args below meth c b D cy 4 (zI b D cy below args s G Q) 0 0 G S 104 [(0, .ref (b + v0)), (1, .int v1), (2, .int v2)] [] := by
  intro k
  induction k with
  | zero => intro v2 S h; exact h.elim
  | succ k ih =>
    intro v2 S h
    unfold f_X11_orders_104_n at h
    refine jB C [(.iload_n 2, 1, 0), (.bipush 16, 2, 16)] 107 [(0, .ref (b + v0)), (1, .int v1), (2, .int v2)] [.int 16, .int v2] (by decide +kernel) rfl rfl ?_
    refine jIcmp_ge C 110 128 (by decide +kernel : decode cX11_orders 107 = .ok (.if_icmp .ge 21, 3)) rfl rfl (fun c1 => ?_) (fun c1 => ?_)
    · have h := it1 h c1
      refine jB C [(.aload_n 0, 1, 0), (.iconst 0, 1, 0)] 130 [(0, .ref (b + v0)), (1, .int v1), (2, .int v2)] [.int 0, .ref (b + v0)] (by decide +kernel) rfl rfl ?_
      refine jPutI C 133 (by decide +kernel : decode cX11_orders 130 = .ok (.putfield 538, 3)) rfl hE t_v0 kX11 53 (by decide) rfl rfl (by decide) rfl wd_1207 rfl rfl rfl ?_
      refine jTopS (fun S2 e_S2 => ?_)
      have h := h S2 e_S2
      refine jB C [(.aload_n 0, 1, 0), (.iconst (-1), 1, (-1))] 135 [(0, .ref (b + v0)), (1, .int v1), (2, .int v2)] [.int (-1), .ref (b + v0)] (by decide +kernel) rfl rfl ?_
      refine jPutI C 138 (by decide +kernel : decode cX11_orders 135 = .ok (.putfield 541, 3)) rfl hE t_v0 kX11 54 (by decide) rfl rfl (by decide) rfl wd_1208 rfl rfl rfl ?_
      refine jTopS (fun S3 e_S3 => ?_)
      have h := h S3 e_S3
      refine jB C [(.iconst 0, 1, 0), (.istore_n 2, 1, 0)] 140 [(2, .int 0), (0, .ref (b + v0)), (1, .int v1)] [] (by decide +kernel) rfl rfl ?_
      refine jSub [1, 2, 0] rfl ?_
      exact j_X11_orders_140 C hE t_v0 h
    · have h := it2 h c1
      refine jB C [(.aload_n 0, 1, 0)] 111 [(0, .ref (b + v0)), (1, .int v1), (2, .int v2)] [.ref (b + v0)] (by decide +kernel) rfl rfl ?_
      obtain ⟨a4, e_a4, h⟩ := h
      refine jGetR C 114 (by decide +kernel : decode cX11_orders 111 = .ok (.getfield 35, 3)) rfl t_v0 kX11 11 (by decide) rfl rfl (by decide) wd_1165 e_a4 rfl (fun t_a4 => ?_)
      refine jB C [(.iload_n 2, 1, 0), (.aload_n 0, 1, 0)] 116 [(0, .ref (b + v0)), (1, .int v1), (2, .int v2)] [.ref (b + v0), .int v2, .ref (b + a4)] (by decide +kernel) rfl rfl ?_
      obtain ⟨a5, e_a5, h⟩ := h
      refine jGetR C 119 (by decide +kernel : decode cX11_orders 116 = .ok (.getfield 29, 3)) rfl t_v0 kX11 8 (by decide) rfl rfl (by decide) wd_1162 e_a5 rfl (fun t_a5 => ?_)
      refine jB C [(.iload_n 2, 1, 0)] 120 [(0, .ref (b + v0)), (1, .int v1), (2, .int v2)] [.int v2, .ref (b + a5), .int v2, .ref (b + a4)] (by decide +kernel) rfl rfl ?_
      obtain ⟨y6, h⟩ := h
      refine jIald C 121 (by decide +kernel : decode cX11_orders 120 = .ok (.iaload, 1)) rfl t_a5 y6 ?_
      obtain ⟨y7, h⟩ := h
      refine jIast C 122 (by decide +kernel : decode cX11_orders 121 = .ok (.iastore, 1)) rfl hE t_a4 y7 ?_
      refine jTopS (fun S8 e_S8 => ?_)
      have h := h S8 e_S8
      refine jB C [(.iinc 2 1, 3, 1)] 125 [(2, .int (v2 + 1)), (0, .ref (b + v0)), (1, .int v1)] [] (by decide +kernel) rfl rfl ?_
      refine jGoto C 104 (by decide +kernel : decode cX11_orders 125 = .ok (.goto (-21), 3)) rfl ?_
      refine jSub [1, 2, 0] rfl ?_
      exact ih (v2 + 1) S8 h
theorem j_X11_orders_104 {p : Program} {l : Launch} {e : Env} {s : State} {m : MethodId} {args : Array Value} {below : List Frame} {meth : Method} {c : Code} {b : Nat} {D : va_G} {cy : Nat → ClassId} {G : Gm} {v0 : Nat} {v1 : Int32} {v2 : Int32} {S : St} {Q : Int32 → St → Prop} (C : CX p s m args meth c b D cy cX11_orders RX11 4 (some .int)) (hE : s.heap.size + 0 ≤ b + G.2.2) (t_v0 : ok G 10 v0) (h : f_X11_orders_104 G v0 v1 Q v2 S) : J p l e rm_X11_orders s m args below meth c b D cy 4 (zI b D cy below args s G Q) 0 0 G S 104 [(0, .ref (b + v0)), (1, .int v1), (2, .int v2)] [] := by
  obtain ⟨k, h⟩ := h
  exact j_X11_orders_104_n C hE t_v0 k v2 S h
set_option maxHeartbeats 4000000 in
set_option maxRecDepth 100000 in
theorem j_X11_orders_77_n {p : Program} {l : Launch} {e : Env} {s : State} {m : MethodId} {args : Array Value} {below : List Frame} {meth : Method} {c : Code} {b : Nat} {D : va_G} {cy : Nat → ClassId} {G : Gm} {v0 : Nat} {v1 : Int32} {Q : Int32 → St → Prop} (C : CX p s m args meth c b D cy cX11_orders RX11 4 (some .int)) (hE : s.heap.size + 0 ≤ b + G.2.2) (t_v0 : ok G 10 v0) : ∀ k (v2 : Int32) S, f_X11_orders_77_n G v0 v1 Q k v2 S → J p l e rm_X11_orders s m args below meth c b D cy 4 (zI b D cy below args s G Q) 0 0 G S 77 [(0, .ref (b + v0)), (1, .int v1), (2, .int v2)] [] := by
  intro k
  induction k with
  | zero => intro v2 S h; exact h.elim
  | succ k ih =>
    intro v2 S h
    unfold f_X11_orders_77_n at h
    refine jB C [(.iload_n 2, 1, 0), (.sipush 928, 3, 928)] 81 [(0, .ref (b + v0)), (1, .int v1), (2, .int v2)] [.int 928, .int v2] (by decide +kernel) rfl rfl ?_
    refine jIcmp_ge C 84 102 (by decide +kernel : decode cX11_orders 81 = .ok (.if_icmp .ge 21, 3)) rfl rfl (fun c1 => ?_) (fun c1 => ?_)
    · have h := it1 h c1
      refine jB C [(.iconst 0, 1, 0), (.istore_n 2, 1, 0)] 104 [(2, .int 0), (0, .ref (b + v0)), (1, .int v1)] [] (by decide +kernel) rfl rfl ?_
      refine jSub [1, 2, 0] rfl ?_
      exact j_X11_orders_104 C hE t_v0 h
    · have h := it2 h c1
      refine jB C [(.aload_n 0, 1, 0)] 85 [(0, .ref (b + v0)), (1, .int v1), (2, .int v2)] [.ref (b + v0)] (by decide +kernel) rfl rfl ?_
      obtain ⟨a2, e_a2, h⟩ := h
      refine jGetR C 88 (by decide +kernel : decode cX11_orders 85 = .ok (.getfield 32, 3)) rfl t_v0 kX11 10 (by decide) rfl rfl (by decide) wd_1164 e_a2 rfl (fun t_a2 => ?_)
      refine jB C [(.iload_n 2, 1, 0), (.aload_n 0, 1, 0)] 90 [(0, .ref (b + v0)), (1, .int v1), (2, .int v2)] [.ref (b + v0), .int v2, .ref (b + a2)] (by decide +kernel) rfl rfl ?_
      obtain ⟨a3, e_a3, h⟩ := h
      refine jGetR C 93 (by decide +kernel : decode cX11_orders 90 = .ok (.getfield 26, 3)) rfl t_v0 kX11 7 (by decide) rfl rfl (by decide) wd_1161 e_a3 rfl (fun t_a3 => ?_)
      refine jB C [(.iload_n 2, 1, 0)] 94 [(0, .ref (b + v0)), (1, .int v1), (2, .int v2)] [.int v2, .ref (b + a3), .int v2, .ref (b + a2)] (by decide +kernel) rfl rfl ?_
      obtain ⟨y4, h⟩ := h
      refine jIald C 95 (by decide +kernel : decode cX11_orders 94 = .ok (.iaload, 1)) rfl t_a3 y4 ?_
      obtain ⟨y5, h⟩ := h
      refine jIast C 96 (by decide +kernel : decode cX11_orders 95 = .ok (.iastore, 1)) rfl hE t_a2 y5 ?_
      refine jTopS (fun S6 e_S6 => ?_)
      have h := h S6 e_S6
      refine jB C [(.iinc 2 1, 3, 1)] 99 [(2, .int (v2 + 1)), (0, .ref (b + v0)), (1, .int v1)] [] (by decide +kernel) rfl rfl ?_
      refine jGoto C 77 (by decide +kernel : decode cX11_orders 99 = .ok (.goto (-22), 3)) rfl ?_
      refine jSub [1, 2, 0] rfl ?_
      exact ih (v2 + 1) S6 h
theorem j_X11_orders_77 {p : Program} {l : Launch} {e : Env} {s : State} {m : MethodId} {args : Array Value} {below : List Frame} {meth : Method} {c : Code} {b : Nat} {D : va_G} {cy : Nat → ClassId} {G : Gm} {v0 : Nat} {v1 : Int32} {v2 : Int32} {S : St} {Q : Int32 → St → Prop} (C : CX p s m args meth c b D cy cX11_orders RX11 4 (some .int)) (hE : s.heap.size + 0 ≤ b + G.2.2) (t_v0 : ok G 10 v0) (h : f_X11_orders_77 G v0 v1 Q v2 S) : J p l e rm_X11_orders s m args below meth c b D cy 4 (zI b D cy below args s G Q) 0 0 G S 77 [(0, .ref (b + v0)), (1, .int v1), (2, .int v2)] [] := by
  obtain ⟨k, h⟩ := h
  exact j_X11_orders_77_n C hE t_v0 k v2 S h
set_option maxHeartbeats 4000000 in
set_option maxRecDepth 100000 in
theorem j_X11_orders_46 {p : Program} {l : Launch} {e : Env} {s : State} {m : MethodId} {args : Array Value} {below : List Frame} {meth : Method} {c : Code} {b : Nat} {D : va_G} {cy : Nat → ClassId} {G : Gm} {v0 : Nat} {S : St} {Q : Int32 → St → Prop} (C : CX p s m args meth c b D cy cX11_orders RX11 4 (some .int)) (hE : s.heap.size + 0 ≤ b + G.2.2) (t_v0 : ok G 10 v0) (h : f_X11_orders_46 G v0 Q S) : J p l e rm_X11_orders s m args below meth c b D cy 4 (zI b D cy below args s G Q) 0 0 G S 46 [(0, .ref (b + v0))] [] := by
  unfold f_X11_orders_46 at h
  refine jB C [(.aload_n 0, 1, 0)] 47 [(0, .ref (b + v0))] [.ref (b + v0)] (by decide +kernel) rfl rfl ?_
  refine jcV_V C 50 (rest := []) (ok_X11_endText t_v0 h) (by decide +kernel : decode cX11_orders 47 = .ok (.invokevirtual 413, 3)) rfl wd_1626 wd_1628 wp_141 wd_12 wd_1629 ⟨rfl, rfl⟩ hd_X11_endText ⟨Nat.le_of_ble_eq_true rfl, Nat.le_of_ble_eq_true rfl⟩ t_v0 kX11 (by decide) rfl rfl rfl (Nat.le_of_ble_eq_true rfl) ⟨Nat.zero_le _, Nat.zero_le _⟩ (fun S1 h => ?_)
  refine jB C [(.aload_n 0, 1, 0)] 51 [(0, .ref (b + v0))] [.ref (b + v0)] (by decide +kernel) rfl rfl ?_
  refine jGetI C 54 (by decide +kernel : decode cX11_orders 51 = .ok (.getfield 271, 3)) rfl t_v0 kX11 20 (by decide) rfl rfl (by decide) wd_1174 ?_
  refine jIf_eq C 57 64 (by decide +kernel : decode cX11_orders 54 = .ok (.ifCond .eq 10, 3)) rfl rfl (fun c2 => ?_) (fun c2 => ?_)
  · have h := it1 h c2
    refine jB C [(.aload_n 0, 1, 0), (.bipush 17, 2, 17)] 67 [(0, .ref (b + v0))] [.int 17, .ref (b + v0)] (by decide +kernel) rfl rfl ?_
    refine jcV_V C 70 (rest := []) (ok_X11_keepAll t_v0 h) (by decide +kernel : decode cX11_orders 67 = .ok (.invokevirtual 178, 3)) rfl wd_1651 wd_1653 wp_145 wd_12 wd_1654 ⟨rfl, rfl⟩ hd_X11_keepAll ⟨Nat.le_of_ble_eq_true rfl, Nat.le_of_ble_eq_true rfl⟩ t_v0 kX11 (by decide) rfl rfl rfl (Nat.le_of_ble_eq_true rfl) ⟨Nat.zero_le _, Nat.zero_le _⟩ (fun S3 h => ?_)
    refine jB C [(.aload_n 0, 1, 0)] 71 [(0, .ref (b + v0))] [.ref (b + v0)] (by decide +kernel) rfl rfl ?_
    refine jGetI C 74 (by decide +kernel : decode cX11_orders 71 = .ok (.getfield 171, 3)) rfl t_v0 kX11 9 (by decide) rfl rfl (by decide) wd_1163 ?_
    refine jTopI (fun x4 e_x4 => ?_)
    have h := h x4 e_x4
    refine jB C [(.istore_n 1, 1, 0), (.iconst 0, 1, 0), (.istore_n 2, 1, 0)] 77 [(2, .int 0), (1, .int x4), (0, .ref (b + v0))] [] (by decide +kernel) rfl rfl ?_
    refine jSub [2, 1, 0] rfl ?_
    exact j_X11_orders_77 C hE t_v0 h
  · have h := it2 h c2
    refine jB C [(.aload_n 0, 1, 0), (.bipush (-6), 2, (-6))] 60 [(0, .ref (b + v0))] [.int (-6), .ref (b + v0)] (by decide +kernel) rfl rfl ?_
    refine jcV_I C 63 (rest := []) (ok_X11_tell t_v0 h) (by decide +kernel : decode cX11_orders 60 = .ok (.invokevirtual 174, 3)) rfl wd_1340 wd_1342 wp_99 wd_12 wd_1343 ⟨rfl, rfl⟩ hd_X11_tell ⟨Nat.le_of_ble_eq_true rfl, Nat.le_of_ble_eq_true rfl⟩ t_v0 kX11 (by decide) rfl rfl rfl (Nat.le_of_ble_eq_true rfl) ⟨Nat.zero_le _, Nat.zero_le _⟩ (fun r6 S5 h => ?_)
    exact jRetI C (by decide +kernel : decode cX11_orders 63 = .ok (.ireturn, 1)) (Nat.le_refl _) (Nat.le_refl _) ⟨rfl, h⟩
set_option maxHeartbeats 4000000 in
set_option maxRecDepth 100000 in
theorem j_X11_orders_19_n {p : Program} {l : Launch} {e : Env} {s : State} {m : MethodId} {args : Array Value} {below : List Frame} {meth : Method} {c : Code} {b : Nat} {D : va_G} {cy : Nat → ClassId} {G : Gm} {v0 : Nat} {Q : Int32 → St → Prop} (C : CX p s m args meth c b D cy cX11_orders RX11 4 (some .int)) (hE : s.heap.size + 0 ≤ b + G.2.2) (t_v0 : ok G 10 v0) : ∀ k S, f_X11_orders_19_n G v0 Q k S → J p l e rm_X11_orders s m args below meth c b D cy 4 (zI b D cy below args s G Q) 0 0 G S 19 [(0, .ref (b + v0))] [] := by
  intro k
  induction k with
  | zero => intro S h; exact h.elim
  | succ k ih =>
    intro S h
    unfold f_X11_orders_19_n at h
    refine jB C [(.aload_n 0, 1, 0)] 20 [(0, .ref (b + v0))] [.ref (b + v0)] (by decide +kernel) rfl rfl ?_
    refine jGetI C 23 (by decide +kernel : decode cX11_orders 20 = .ok (.getfield 271, 3)) rfl t_v0 kX11 20 (by decide) rfl rfl (by decide) wd_1174 ?_
    refine jIf_ne C 26 46 (by decide +kernel : decode cX11_orders 23 = .ok (.ifCond .ne 23, 3)) rfl rfl (fun c1 => ?_) (fun c1 => ?_)
    · have h := it2 h c1
      refine jSub [0] rfl ?_
      exact j_X11_orders_46 C hE t_v0 h
    · have h := it1 h c1
      refine jB C [(.aload_n 0, 1, 0), (.bipush 59, 2, 59)] 29 [(0, .ref (b + v0))] [.int 59, .ref (b + v0)] (by decide +kernel) rfl rfl ?_
      refine jcV_I C 32 (rest := []) (ok_X11_isSign t_v0 h) (by decide +kernel : decode cX11_orders 29 = .ok (.invokevirtual 341, 3)) rfl wd_1563 wd_1565 wp_128 wd_12 wd_1566 ⟨rfl, rfl⟩ hd_X11_isSign ⟨Nat.le_of_ble_eq_true rfl, Nat.le_of_ble_eq_true rfl⟩ t_v0 kX11 (by decide) rfl rfl rfl (Nat.le_of_ble_eq_true rfl) ⟨Nat.zero_le _, Nat.zero_le _⟩ (fun r3 S2 h => ?_)
      refine jIf_eq C 35 46 (by decide +kernel : decode cX11_orders 32 = .ok (.ifCond .eq 14, 3)) rfl rfl (fun c4 => ?_) (fun c4 => ?_)
      · have h := it1 h c4
        refine jSub [0] rfl ?_
        exact j_X11_orders_46 C hE t_v0 h
      · have h := it2 h c4
        refine jB C [(.aload_n 0, 1, 0)] 36 [(0, .ref (b + v0))] [.ref (b + v0)] (by decide +kernel) rfl rfl ?_
        refine jcV_V C 39 (rest := []) (ok_X11_next t_v0 h) (by decide +kernel : decode cX11_orders 36 = .ok (.invokevirtual 275, 3)) rfl wd_1524 wd_1526 wp_121 wd_12 wd_1527 ⟨rfl, rfl⟩ hd_X11_next ⟨Nat.le_of_ble_eq_true rfl, Nat.le_of_ble_eq_true rfl⟩ t_v0 kX11 (by decide) rfl rfl rfl (Nat.le_of_ble_eq_true rfl) ⟨Nat.zero_le _, Nat.zero_le _⟩ (fun S5 h => ?_)
        refine jB C [(.aload_n 0, 1, 0)] 40 [(0, .ref (b + v0))] [.ref (b + v0)] (by decide +kernel) rfl rfl ?_
        refine jcV_V C 43 (rest := []) (ok_X11_readOrder t_v0 h) (by decide +kernel : decode cX11_orders 40 = .ok (.invokevirtual 550, 3)) rfl wd_1795 wd_1797 wp_162 wd_12 wd_1798 ⟨rfl, rfl⟩ hd_X11_readOrder ⟨Nat.le_of_ble_eq_true rfl, Nat.le_of_ble_eq_true rfl⟩ t_v0 kX11 (by decide) rfl rfl rfl (Nat.le_of_ble_eq_true rfl) ⟨Nat.zero_le _, Nat.zero_le _⟩ (fun S6 h => ?_)
        refine jGoto C 19 (by decide +kernel : decode cX11_orders 43 = .ok (.goto (-24), 3)) rfl ?_
        refine jSub [0] rfl ?_
        exact ih S6 h
theorem j_X11_orders_19 {p : Program} {l : Launch} {e : Env} {s : State} {m : MethodId} {args : Array Value} {below : List Frame} {meth : Method} {c : Code} {b : Nat} {D : va_G} {cy : Nat → ClassId} {G : Gm} {v0 : Nat} {S : St} {Q : Int32 → St → Prop} (C : CX p s m args meth c b D cy cX11_orders RX11 4 (some .int)) (hE : s.heap.size + 0 ≤ b + G.2.2) (t_v0 : ok G 10 v0) (h : f_X11_orders_19 G v0 Q S) : J p l e rm_X11_orders s m args below meth c b D cy 4 (zI b D cy below args s G Q) 0 0 G S 19 [(0, .ref (b + v0))] [] := by
  obtain ⟨k, h⟩ := h
  exact j_X11_orders_19_n C hE t_v0 k S h
set_option maxHeartbeats 4000000 in
set_option maxRecDepth 100000 in
theorem j_X11_orders {p : Program} {l : Launch} {e : Env} {s : State} {m : MethodId} {args : Array Value} {below : List Frame} {meth : Method} {c : Code} {b : Nat} {D : va_G} {cy : Nat → ClassId} {G : Gm} {v0 : Nat} {S : St} {Q : Int32 → St → Prop} (C : CX p s m args meth c b D cy cX11_orders RX11 4 (some .int)) (hE : s.heap.size + 0 ≤ b + G.2.2) (t_v0 : ok G 10 v0) (h : f_X11_orders G v0 Q S) : J p l e rm_X11_orders s m args below meth c b D cy 4 (zI b D cy below args s G Q) 0 0 G S 0 [(0, .ref (b + v0))] [] := by
  unfold f_X11_orders at h
  refine jB C [(.aload_n 0, 1, 0), (.iconst 0, 1, 0)] 2 [(0, .ref (b + v0))] [.int 0, .ref (b + v0)] (by decide +kernel) rfl rfl ?_
  refine jPutI C 5 (by decide +kernel : decode cX11_orders 2 = .ok (.putfield 165, 3)) rfl hE t_v0 kX11 0 (by decide) rfl rfl (by decide) rfl wd_1154 rfl rfl rfl ?_
  refine jTopS (fun S1 e_S1 => ?_)
  have h := h S1 e_S1
  refine jB C [(.aload_n 0, 1, 0), (.iconst (-1), 1, (-1))] 7 [(0, .ref (b + v0))] [.int (-1), .ref (b + v0)] (by decide +kernel) rfl rfl ?_
  refine jPutI C 10 (by decide +kernel : decode cX11_orders 7 = .ok (.putfield 152, 3)) rfl hE t_v0 kX11 55 (by decide) rfl rfl (by decide) rfl wd_1209 rfl rfl rfl ?_
  refine jTopS (fun S2 e_S2 => ?_)
  have h := h S2 e_S2
  refine jB C [(.aload_n 0, 1, 0), (.iconst 1, 1, 1)] 12 [(0, .ref (b + v0))] [.int 1, .ref (b + v0)] (by decide +kernel) rfl rfl ?_
  refine jcV_V C 15 (rest := []) (ok_X11_beginText t_v0 h) (by decide +kernel : decode cX11_orders 12 = .ok (.invokevirtual 407, 3)) rfl wd_1516 wd_1518 wp_119 wd_12 wd_1519 ⟨rfl, rfl⟩ hd_X11_beginText ⟨Nat.le_of_ble_eq_true rfl, Nat.le_of_ble_eq_true rfl⟩ t_v0 kX11 (by decide) rfl rfl rfl (Nat.le_of_ble_eq_true rfl) ⟨Nat.zero_le _, Nat.zero_le _⟩ (fun S3 h => ?_)
  refine jB C [(.aload_n 0, 1, 0)] 16 [(0, .ref (b + v0))] [.ref (b + v0)] (by decide +kernel) rfl rfl ?_
  refine jcV_V C 19 (rest := []) (ok_X11_readOrder t_v0 h) (by decide +kernel : decode cX11_orders 16 = .ok (.invokevirtual 550, 3)) rfl wd_1795 wd_1797 wp_162 wd_12 wd_1798 ⟨rfl, rfl⟩ hd_X11_readOrder ⟨Nat.le_of_ble_eq_true rfl, Nat.le_of_ble_eq_true rfl⟩ t_v0 kX11 (by decide) rfl rfl rfl (Nat.le_of_ble_eq_true rfl) ⟨Nat.zero_le _, Nat.zero_le _⟩ (fun S4 h => ?_)
  refine jSub [0] rfl ?_
  exact j_X11_orders_19 C hE t_v0 h
theorem ok_X11_orders {G : Gm} {v0 : Nat} {S : St} {Q : Int32 → St → Prop}  (t_v0 : ok G 10 v0) (h : f_X11_orders G v0 Q S) : MT yX11_orders cX11_orders 4 (some .int) rm_X11_orders 0 0 (fun b => [.ref (b + v0)]) G S (QI (fun r G1 S1 => G1 = G ∧ Q r S1)) := MT.ofJ (by decide +kernel) (fun b => [(0, .ref (b + v0))]) (fun b => rfl) (fun b => Nat.le_of_ble_eq_true rfl) (fun l b D cy p e s m below meth c C hE hn => j_X11_orders C hE t_v0 h)
theorem hd_X11_orders : yX11_orders.cls ≠ "java/lang/invoke/MethodHandle" ∧ yX11_orders.cls ≠ "java/lang/invoke/VarHandle" ∧ (parseMethodDescriptor yX11_orders.desc).map (fun d => d.parameters.length) = some 0 := by decide +kernel
abbrev rm_X11_pass : Room := { frames := 9, cells := 0, slots := 0, locals := 206 }
set_option maxHeartbeats 4000000 in
set_option maxRecDepth 100000 in
theorem j_X11_pass {p : Program} {l : Launch} {e : Env} {s : State} {m : MethodId} {args : Array Value} {below : List Frame} {meth : Method} {c : Code} {b : Nat} {D : va_G} {cy : Nat → ClassId} {G : Gm} {v0 : Nat} {S : St} {Q : Int32 → St → Prop} (C : CX p s m args meth c b D cy cX11_pass RX11 1 (some .int)) (hE : s.heap.size + 0 ≤ b + G.2.2) (t_v0 : ok G 10 v0) (h : f_X11_pass G v0 Q S) : J p l e rm_X11_pass s m args below meth c b D cy 1 (zI b D cy below args s G Q) 0 0 G S 0 [(0, .ref (b + v0))] [] := by
  unfold f_X11_pass at h
  refine jB C [(.aload_n 0, 1, 0), (.iconst 0, 1, 0)] 2 [(0, .ref (b + v0))] [.int 0, .ref (b + v0)] (by decide +kernel) rfl rfl ?_
  refine jPutI C 5 (by decide +kernel : decode cX11_pass 2 = .ok (.putfield 165, 3)) rfl hE t_v0 kX11 0 (by decide) rfl rfl (by decide) rfl wd_1154 rfl rfl rfl ?_
  refine jTopS (fun S1 e_S1 => ?_)
  have h := h S1 e_S1
  refine jB C [(.aload_n 0, 1, 0), (.aload_n 0, 1, 0)] 7 [(0, .ref (b + v0))] [.ref (b + v0), .ref (b + v0)] (by decide +kernel) rfl rfl ?_
  refine jcV_I C 10 (rest := [.ref (b + v0)]) (ok_X11_passNow t_v0 h) (by decide +kernel : decode cX11_pass 7 = .ok (.invokevirtual 492, 3)) rfl wd_1695 wd_1697 wp_152 wd_12 wd_1698 ⟨rfl, rfl⟩ hd_X11_passNow ⟨Nat.le_of_ble_eq_true rfl, Nat.le_of_ble_eq_true rfl⟩ t_v0 kX11 (by decide) rfl rfl rfl (Nat.le_of_ble_eq_true rfl) ⟨Nat.zero_le _, Nat.zero_le _⟩ (fun r3 S2 h => ?_)
  refine jcV_I C 13 (rest := []) (ok_X11_tell t_v0 h) (by decide +kernel : decode cX11_pass 10 = .ok (.invokevirtual 174, 3)) rfl wd_1340 wd_1342 wp_99 wd_12 wd_1343 ⟨rfl, rfl⟩ hd_X11_tell ⟨Nat.le_of_ble_eq_true rfl, Nat.le_of_ble_eq_true rfl⟩ t_v0 kX11 (by decide) rfl rfl rfl (Nat.le_of_ble_eq_true rfl) ⟨Nat.zero_le _, Nat.zero_le _⟩ (fun r5 S4 h => ?_)
  exact jRetI C (by decide +kernel : decode cX11_pass 13 = .ok (.ireturn, 1)) (Nat.le_refl _) (Nat.le_refl _) ⟨rfl, h⟩
theorem ok_X11_pass {G : Gm} {v0 : Nat} {S : St} {Q : Int32 → St → Prop}  (t_v0 : ok G 10 v0) (h : f_X11_pass G v0 Q S) : MT yX11_pass cX11_pass 1 (some .int) rm_X11_pass 0 0 (fun b => [.ref (b + v0)]) G S (QI (fun r G1 S1 => G1 = G ∧ Q r S1)) := MT.ofJ (by decide +kernel) (fun b => [(0, .ref (b + v0))]) (fun b => rfl) (fun b => Nat.le_of_ble_eq_true rfl) (fun l b D cy p e s m below meth c C hE hn => j_X11_pass C hE t_v0 h)
theorem hd_X11_pass : yX11_pass.cls ≠ "java/lang/invoke/MethodHandle" ∧ yX11_pass.cls ≠ "java/lang/invoke/VarHandle" ∧ (parseMethodDescriptor yX11_pass.desc).map (fun d => d.parameters.length) = some 0 := by decide +kernel
abbrev rm_X11_person : Room := { frames := 2, cells := 0, slots := 0, locals := 51 }
set_option maxHeartbeats 4000000 in
set_option maxRecDepth 100000 in
theorem j_X11_person {p : Program} {l : Launch} {e : Env} {s : State} {m : MethodId} {args : Array Value} {below : List Frame} {meth : Method} {c : Code} {b : Nat} {D : va_G} {cy : Nat → ClassId} {G : Gm} {v0 : Nat} {S : St} {Q : Int32 → St → Prop} (C : CX p s m args meth c b D cy cX11_person RX11 1 (some .int)) (hE : s.heap.size + 0 ≤ b + G.2.2) (t_v0 : ok G 10 v0) (h : f_X11_person G v0 Q S) : J p l e rm_X11_person s m args below meth c b D cy 1 (zI b D cy below args s G Q) 0 0 G S 0 [(0, .ref (b + v0))] [] := by
  unfold f_X11_person at h
  refine jB C [(.aload_n 0, 1, 0), (.iconst 0, 1, 0)] 2 [(0, .ref (b + v0))] [.int 0, .ref (b + v0)] (by decide +kernel) rfl rfl ?_
  refine jPutI C 5 (by decide +kernel : decode cX11_person 2 = .ok (.putfield 165, 3)) rfl hE t_v0 kX11 0 (by decide) rfl rfl (by decide) rfl wd_1154 rfl rfl rfl ?_
  refine jTopS (fun S1 e_S1 => ?_)
  have h := h S1 e_S1
  refine jB C [(.aload_n 0, 1, 0), (.aload_n 0, 1, 0), (.iconst 0, 1, 0), (.iconst 0, 1, 0), (.iconst 0, 1, 0), (.iconst 0, 1, 0)] 11 [(0, .ref (b + v0))] [.int 0, .int 0, .int 0, .int 0, .ref (b + v0), .ref (b + v0)] (by decide +kernel) rfl rfl ?_
  refine jcV_I C 14 (rest := [.ref (b + v0)]) (ok_X11_come1 t_v0 h) (by decide +kernel : decode cX11_person 11 = .ok (.invokevirtual 205, 3)) rfl wd_1367 wd_1369 wp_102 wd_12 wd_1370 ⟨rfl, rfl⟩ hd_X11_come1 ⟨Nat.le_of_ble_eq_true rfl, Nat.le_of_ble_eq_true rfl⟩ t_v0 kX11 (by decide) rfl rfl rfl (Nat.le_of_ble_eq_true rfl) ⟨Nat.zero_le _, Nat.zero_le _⟩ (fun r3 S2 h => ?_)
  refine jcV_I C 17 (rest := []) (ok_X11_settled t_v0 h) (by decide +kernel : decode cX11_person 14 = .ok (.invokevirtual 189, 3)) rfl wd_1359 wd_1361 wp_101 wd_12 wd_1362 ⟨rfl, rfl⟩ hd_X11_settled ⟨Nat.le_of_ble_eq_true rfl, Nat.le_of_ble_eq_true rfl⟩ t_v0 kX11 (by decide) rfl rfl rfl (Nat.le_of_ble_eq_true rfl) ⟨Nat.zero_le _, Nat.zero_le _⟩ (fun r5 S4 h => ?_)
  exact jRetI C (by decide +kernel : decode cX11_person 17 = .ok (.ireturn, 1)) (Nat.le_refl _) (Nat.le_refl _) ⟨rfl, h⟩
theorem ok_X11_person {G : Gm} {v0 : Nat} {S : St} {Q : Int32 → St → Prop}  (t_v0 : ok G 10 v0) (h : f_X11_person G v0 Q S) : MT yX11_person cX11_person 1 (some .int) rm_X11_person 0 0 (fun b => [.ref (b + v0)]) G S (QI (fun r G1 S1 => G1 = G ∧ Q r S1)) := MT.ofJ (by decide +kernel) (fun b => [(0, .ref (b + v0))]) (fun b => rfl) (fun b => Nat.le_of_ble_eq_true rfl) (fun l b D cy p e s m below meth c C hE hn => j_X11_person C hE t_v0 h)
theorem hd_X11_person : yX11_person.cls ≠ "java/lang/invoke/MethodHandle" ∧ yX11_person.cls ≠ "java/lang/invoke/VarHandle" ∧ (parseMethodDescriptor yX11_person.desc).map (fun d => d.parameters.length) = some 0 := by decide +kernel
abbrev rm_X11_row : Room := { frames := 2, cells := 0, slots := 0, locals := 51 }
set_option maxHeartbeats 4000000 in
set_option maxRecDepth 100000 in
theorem j_X11_row_90 {p : Program} {l : Launch} {e : Env} {s : State} {m : MethodId} {args : Array Value} {below : List Frame} {meth : Method} {c : Code} {b : Nat} {D : va_G} {cy : Nat → ClassId} {G : Gm} {k35 : Int32 → Int32 → St → Prop} {v0 : Nat} {v1 : Int32} {v2 : Int32} {v3 : Int32} {S : St} {Q : Int32 → St → Prop} (C : CX p s m args meth c b D cy cX11_row RX11 4 (some .int)) (hE : s.heap.size + 0 ≤ b + G.2.2) (t_v0 : ok G 10 v0) (hk35 : ∀ v2' v3' S, k35 v2' v3' S → J p l e rm_X11_row s m args below meth c b D cy 4 (zI b D cy below args s G Q) 0 0 G S 35 [(0, .ref (b + v0)), (1, .int v1), (2, .int (v2')), (3, .int (v3'))] []) (h : f_X11_row_90 G k35 v0 v1 v2 v3 Q S) : J p l e rm_X11_row s m args below meth c b D cy 4 (zI b D cy below args s G Q) 0 0 G S 90 [(0, .ref (b + v0)), (1, .int v1), (2, .int v2), (3, .int v3)] [] := by
  unfold f_X11_row_90 at h
  refine jB C [(.aload_n 0, 1, 0), (.dup, 1, 0)] 92 [(0, .ref (b + v0)), (1, .int v1), (2, .int v2), (3, .int v3)] [.ref (b + v0), .ref (b + v0)] (by decide +kernel) rfl rfl ?_
  refine jGetI C 95 (by decide +kernel : decode cX11_row 92 = .ok (.getfield 262, 3)) rfl t_v0 kX11 12 (by decide) rfl rfl (by decide) wd_1166 ?_
  refine jB C [(.iconst 1, 1, 1), (.iadd, 1, 0)] 97 [(0, .ref (b + v0)), (1, .int v1), (2, .int v2), (3, .int v3)] [.int ((S.1 v0 12) + 1), .ref (b + v0)] (by decide +kernel) rfl rfl ?_
  refine jPutI C 100 (by decide +kernel : decode cX11_row 97 = .ok (.putfield 262, 3)) rfl hE t_v0 kX11 12 (by decide) rfl rfl (by decide) rfl wd_1166 rfl rfl rfl ?_
  refine jTopS (fun S1 e_S1 => ?_)
  have h := h S1 e_S1
  refine jB C [(.iinc 3 4, 3, 4)] 103 [(3, .int (v3 + 4)), (0, .ref (b + v0)), (1, .int v1), (2, .int v2)] [] (by decide +kernel) rfl rfl ?_
  refine jGoto C 35 (by decide +kernel : decode cX11_row 103 = .ok (.goto (-68), 3)) rfl ?_
  refine jSub [1, 2, 3, 0] rfl ?_
  exact hk35 v2 (v3 + 4) S1 h
set_option maxHeartbeats 4000000 in
set_option maxRecDepth 100000 in
theorem j_X11_row_35_n {p : Program} {l : Launch} {e : Env} {s : State} {m : MethodId} {args : Array Value} {below : List Frame} {meth : Method} {c : Code} {b : Nat} {D : va_G} {cy : Nat → ClassId} {G : Gm} {v0 : Nat} {v1 : Int32} {Q : Int32 → St → Prop} (C : CX p s m args meth c b D cy cX11_row RX11 4 (some .int)) (hE : s.heap.size + 0 ≤ b + G.2.2) (t_v0 : ok G 10 v0) : ∀ k (v2 : Int32) (v3 : Int32) S, f_X11_row_35_n G v0 v1 Q k v2 v3 S → J p l e rm_X11_row s m args below meth c b D cy 4 (zI b D cy below args s G Q) 0 0 G S 35 [(0, .ref (b + v0)), (1, .int v1), (2, .int v2), (3, .int v3)] [] := by
  intro k
  induction k with
  | zero => intro v2 v3 S h; exact h.elim
  | succ k ih =>
    intro v2 v3 S h
    unfold f_X11_row_35_n at h
    refine jB C [(.iload_n 3, 1, 0), (.iload_n 1, 1, 0)] 37 [(0, .ref (b + v0)), (1, .int v1), (2, .int v2), (3, .int v3)] [.int v1, .int v3] (by decide +kernel) rfl rfl ?_
    refine jIcmp_ge C 40 106 (by decide +kernel : decode cX11_row 37 = .ok (.if_icmp .ge 69, 3)) rfl rfl (fun c1 => ?_) (fun c1 => ?_)
    · have h := it1 h c1
      refine jB C [(.aload_n 0, 1, 0), (.iload_n 2, 1, 0)] 108 [(0, .ref (b + v0)), (1, .int v1), (2, .int v2), (3, .int v3)] [.int v2, .ref (b + v0)] (by decide +kernel) rfl rfl ?_
      refine jcV_I C 111 (rest := []) (ok_X11_settled t_v0 h) (by decide +kernel : decode cX11_row 108 = .ok (.invokevirtual 189, 3)) rfl wd_1359 wd_1361 wp_101 wd_12 wd_1362 ⟨rfl, rfl⟩ hd_X11_settled ⟨Nat.le_of_ble_eq_true rfl, Nat.le_of_ble_eq_true rfl⟩ t_v0 kX11 (by decide) rfl rfl rfl (Nat.le_of_ble_eq_true rfl) ⟨Nat.zero_le _, Nat.zero_le _⟩ (fun r3 S2 h => ?_)
      exact jRetI C (by decide +kernel : decode cX11_row 111 = .ok (.ireturn, 1)) (Nat.le_refl _) (Nat.le_refl _) ⟨rfl, h⟩
    · have h := it2 h c1
      refine jB C [(.iload_n 3, 1, 0), (.iconst 3, 1, 3), (.iadd, 1, 0), (.iload_n 1, 1, 0)] 44 [(0, .ref (b + v0)), (1, .int v1), (2, .int v2), (3, .int v3)] [.int v1, .int (v3 + 3)] (by decide +kernel) rfl rfl ?_
      refine jIcmp_ge C 47 90 (by decide +kernel : decode cX11_row 44 = .ok (.if_icmp .ge 46, 3)) rfl rfl (fun c4 => ?_) (fun c4 => ?_)
      · have h := it1 h c4
        refine jSub [0, 1, 2, 3] rfl ?_
        exact j_X11_row_90 C hE t_v0 ih h
      · have h := it2 h c4
        refine jB C [(.aload_n 0, 1, 0), (.aload_n 0, 1, 0)] 49 [(0, .ref (b + v0)), (1, .int v1), (2, .int v2), (3, .int v3)] [.ref (b + v0), .ref (b + v0)] (by decide +kernel) rfl rfl ?_
        obtain ⟨a5, e_a5, h⟩ := h
        refine jGetR C 52 (by decide +kernel : decode cX11_row 49 = .ok (.getfield 38, 3)) rfl t_v0 kX11 13 (by decide) rfl rfl (by decide) wd_1167 e_a5 rfl (fun t_a5 => ?_)
        refine jB C [(.iload_n 3, 1, 0)] 53 [(0, .ref (b + v0)), (1, .int v1), (2, .int v2), (3, .int v3)] [.int v3, .ref (b + a5), .ref (b + v0)] (by decide +kernel) rfl rfl ?_
        obtain ⟨y6, h⟩ := h
        refine jIald C 54 (by decide +kernel : decode cX11_row 53 = .ok (.iaload, 1)) rfl t_a5 y6 ?_
        refine jB C [(.aload_n 0, 1, 0)] 55 [(0, .ref (b + v0)), (1, .int v1), (2, .int v2), (3, .int v3)] [.ref (b + v0), .int (S.1 a5 v3.toNatClampNeg), .ref (b + v0)] (by decide +kernel) rfl rfl ?_
        obtain ⟨a7, e_a7, h⟩ := h
        refine jGetR C 58 (by decide +kernel : decode cX11_row 55 = .ok (.getfield 38, 3)) rfl t_v0 kX11 13 (by decide) rfl rfl (by decide) wd_1167 e_a7 rfl (fun t_a7 => ?_)
        refine jB C [(.iload_n 3, 1, 0), (.iconst 1, 1, 1), (.iadd, 1, 0)] 61 [(0, .ref (b + v0)), (1, .int v1), (2, .int v2), (3, .int v3)] [.int (v3 + 1), .ref (b + a7), .int (S.1 a5 v3.toNatClampNeg), .ref (b + v0)] (by decide +kernel) rfl rfl ?_
        obtain ⟨y8, h⟩ := h
        refine jIald C 62 (by decide +kernel : decode cX11_row 61 = .ok (.iaload, 1)) rfl t_a7 y8 ?_
        refine jB C [(.aload_n 0, 1, 0)] 63 [(0, .ref (b + v0)), (1, .int v1), (2, .int v2), (3, .int v3)] [.ref (b + v0), .int (S.1 a7 (v3 + 1).toNatClampNeg), .int (S.1 a5 v3.toNatClampNeg), .ref (b + v0)] (by decide +kernel) rfl rfl ?_
        obtain ⟨a9, e_a9, h⟩ := h
        refine jGetR C 66 (by decide +kernel : decode cX11_row 63 = .ok (.getfield 38, 3)) rfl t_v0 kX11 13 (by decide) rfl rfl (by decide) wd_1167 e_a9 rfl (fun t_a9 => ?_)
        refine jB C [(.iload_n 3, 1, 0), (.iconst 2, 1, 2), (.iadd, 1, 0)] 69 [(0, .ref (b + v0)), (1, .int v1), (2, .int v2), (3, .int v3)] [.int (v3 + 2), .ref (b + a9), .int (S.1 a7 (v3 + 1).toNatClampNeg), .int (S.1 a5 v3.toNatClampNeg), .ref (b + v0)] (by decide +kernel) rfl rfl ?_
        obtain ⟨y10, h⟩ := h
        refine jIald C 70 (by decide +kernel : decode cX11_row 69 = .ok (.iaload, 1)) rfl t_a9 y10 ?_
        refine jB C [(.aload_n 0, 1, 0)] 71 [(0, .ref (b + v0)), (1, .int v1), (2, .int v2), (3, .int v3)] [.ref (b + v0), .int (S.1 a9 (v3 + 2).toNatClampNeg), .int (S.1 a7 (v3 + 1).toNatClampNeg), .int (S.1 a5 v3.toNatClampNeg), .ref (b + v0)] (by decide +kernel) rfl rfl ?_
        obtain ⟨a11, e_a11, h⟩ := h
        refine jGetR C 74 (by decide +kernel : decode cX11_row 71 = .ok (.getfield 38, 3)) rfl t_v0 kX11 13 (by decide) rfl rfl (by decide) wd_1167 e_a11 rfl (fun t_a11 => ?_)
        refine jB C [(.iload_n 3, 1, 0), (.iconst 3, 1, 3), (.iadd, 1, 0)] 77 [(0, .ref (b + v0)), (1, .int v1), (2, .int v2), (3, .int v3)] [.int (v3 + 3), .ref (b + a11), .int (S.1 a9 (v3 + 2).toNatClampNeg), .int (S.1 a7 (v3 + 1).toNatClampNeg), .int (S.1 a5 v3.toNatClampNeg), .ref (b + v0)] (by decide +kernel) rfl rfl ?_
        obtain ⟨y12, h⟩ := h
        refine jIald C 78 (by decide +kernel : decode cX11_row 77 = .ok (.iaload, 1)) rfl t_a11 y12 ?_
        refine jcV_I C 81 (rest := []) (ok_X11_come1 t_v0 h) (by decide +kernel : decode cX11_row 78 = .ok (.invokevirtual 205, 3)) rfl wd_1367 wd_1369 wp_102 wd_12 wd_1370 ⟨rfl, rfl⟩ hd_X11_come1 ⟨Nat.le_of_ble_eq_true rfl, Nat.le_of_ble_eq_true rfl⟩ t_v0 kX11 (by decide) rfl rfl rfl (Nat.le_of_ble_eq_true rfl) ⟨Nat.zero_le _, Nat.zero_le _⟩ (fun r14 S13 h => ?_)
        refine jIf_lt C 84 90 (by decide +kernel : decode cX11_row 81 = .ok (.ifCond .lt 9, 3)) rfl rfl (fun c15 => ?_) (fun c15 => ?_)
        · have h := it1 h c15
          refine jSub [0, 1, 2, 3] rfl ?_
          exact j_X11_row_90 C hE t_v0 ih h
        · have h := it2 h c15
          refine jB C [(.iinc 2 1, 3, 1)] 87 [(2, .int (v2 + 1)), (0, .ref (b + v0)), (1, .int v1), (3, .int v3)] [] (by decide +kernel) rfl rfl ?_
          refine jGoto C 100 (by decide +kernel : decode cX11_row 87 = .ok (.goto 13, 3)) rfl ?_
          refine jB C [(.iinc 3 4, 3, 4)] 103 [(3, .int (v3 + 4)), (2, .int (v2 + 1)), (0, .ref (b + v0)), (1, .int v1)] [] (by decide +kernel) rfl rfl ?_
          refine jGoto C 35 (by decide +kernel : decode cX11_row 103 = .ok (.goto (-68), 3)) rfl ?_
          refine jSub [2, 3, 1, 0] rfl ?_
          exact ih (v2 + 1) (v3 + 4) S13 h
theorem j_X11_row_35 {p : Program} {l : Launch} {e : Env} {s : State} {m : MethodId} {args : Array Value} {below : List Frame} {meth : Method} {c : Code} {b : Nat} {D : va_G} {cy : Nat → ClassId} {G : Gm} {v0 : Nat} {v1 : Int32} {v2 : Int32} {v3 : Int32} {S : St} {Q : Int32 → St → Prop} (C : CX p s m args meth c b D cy cX11_row RX11 4 (some .int)) (hE : s.heap.size + 0 ≤ b + G.2.2) (t_v0 : ok G 10 v0) (h : f_X11_row_35 G v0 v1 Q v2 v3 S) : J p l e rm_X11_row s m args below meth c b D cy 4 (zI b D cy below args s G Q) 0 0 G S 35 [(0, .ref (b + v0)), (1, .int v1), (2, .int v2), (3, .int v3)] [] := by
  obtain ⟨k, h⟩ := h
  exact j_X11_row_35_n C hE t_v0 k v2 v3 S h
set_option maxHeartbeats 4000000 in
set_option maxRecDepth 100000 in
theorem j_X11_row {p : Program} {l : Launch} {e : Env} {s : State} {m : MethodId} {args : Array Value} {below : List Frame} {meth : Method} {c : Code} {b : Nat} {D : va_G} {cy : Nat → ClassId} {G : Gm} {v0 : Nat} {S : St} {Q : Int32 → St → Prop} (C : CX p s m args meth c b D cy cX11_row RX11 4 (some .int)) (hE : s.heap.size + 0 ≤ b + G.2.2) (t_v0 : ok G 10 v0) (h : f_X11_row G v0 Q S) : J p l e rm_X11_row s m args below meth c b D cy 4 (zI b D cy below args s G Q) 0 0 G S 0 [(0, .ref (b + v0))] [] := by
  unfold f_X11_row at h
  refine jB C [(.aload_n 0, 1, 0), (.iconst 0, 1, 0)] 2 [(0, .ref (b + v0))] [.int 0, .ref (b + v0)] (by decide +kernel) rfl rfl ?_
  refine jPutI C 5 (by decide +kernel : decode cX11_row 2 = .ok (.putfield 165, 3)) rfl hE t_v0 kX11 0 (by decide) rfl rfl (by decide) rfl wd_1154 rfl rfl rfl ?_
  refine jTopS (fun S1 e_S1 => ?_)
  have h := h S1 e_S1
  refine jB C [(.aload_n 0, 1, 0)] 6 [(0, .ref (b + v0))] [.ref (b + v0)] (by decide +kernel) rfl rfl ?_
  refine jGetI C 9 (by decide +kernel : decode cX11_row 6 = .ok (.getfield 259, 3)) rfl t_v0 kX11 14 (by decide) rfl rfl (by decide) wd_1168 ?_
  refine jTopI (fun x2 e_x2 => ?_)
  have h := h x2 e_x2
  refine jB C [(.istore_n 1, 1, 0), (.aload_n 0, 1, 0), (.iconst 0, 1, 0)] 12 [(1, .int x2), (0, .ref (b + v0))] [.int 0, .ref (b + v0)] (by decide +kernel) rfl rfl ?_
  refine jPutI C 15 (by decide +kernel : decode cX11_row 12 = .ok (.putfield 259, 3)) rfl hE t_v0 kX11 14 (by decide) rfl rfl (by decide) rfl wd_1168 rfl rfl rfl ?_
  refine jTopS (fun S3 e_S3 => ?_)
  have h := h S3 e_S3
  refine jB C [(.iload_n 1, 1, 0)] 16 [(1, .int x2), (0, .ref (b + v0))] [.int x2] (by decide +kernel) rfl rfl ?_
  refine jIf_ne C 19 26 (by decide +kernel : decode cX11_row 16 = .ok (.ifCond .ne 10, 3)) rfl rfl (fun c4 => ?_) (fun c4 => ?_)
  · have h := it2 h c4
    refine jB C [(.aload_n 0, 1, 0), (.iconst 0, 1, 0)] 28 [(1, .int x2), (0, .ref (b + v0))] [.int 0, .ref (b + v0)] (by decide +kernel) rfl rfl ?_
    refine jPutI C 31 (by decide +kernel : decode cX11_row 28 = .ok (.putfield 262, 3)) rfl hE t_v0 kX11 12 (by decide) rfl rfl (by decide) rfl wd_1166 rfl rfl rfl ?_
    refine jTopS (fun S5 e_S5 => ?_)
    have h := h S5 e_S5
    refine jB C [(.iconst 0, 1, 0), (.istore_n 2, 1, 0), (.iconst 0, 1, 0), (.istore_n 3, 1, 0)] 35 [(3, .int 0), (2, .int 0), (1, .int x2), (0, .ref (b + v0))] [] (by decide +kernel) rfl rfl ?_
    refine jSub [3, 2, 1, 0] rfl ?_
    exact j_X11_row_35 C hE t_v0 h
  · have h := it1 h c4
    refine jB C [(.aload_n 0, 1, 0), (.bipush (-6), 2, (-6))] 22 [(1, .int x2), (0, .ref (b + v0))] [.int (-6), .ref (b + v0)] (by decide +kernel) rfl rfl ?_
    refine jcV_I C 25 (rest := []) (ok_X11_tell t_v0 h) (by decide +kernel : decode cX11_row 22 = .ok (.invokevirtual 174, 3)) rfl wd_1340 wd_1342 wp_99 wd_12 wd_1343 ⟨rfl, rfl⟩ hd_X11_tell ⟨Nat.le_of_ble_eq_true rfl, Nat.le_of_ble_eq_true rfl⟩ t_v0 kX11 (by decide) rfl rfl rfl (Nat.le_of_ble_eq_true rfl) ⟨Nat.zero_le _, Nat.zero_le _⟩ (fun r7 S6 h => ?_)
    exact jRetI C (by decide +kernel : decode cX11_row 25 = .ok (.ireturn, 1)) (Nat.le_refl _) (Nat.le_refl _) ⟨rfl, h⟩
theorem ok_X11_row {G : Gm} {v0 : Nat} {S : St} {Q : Int32 → St → Prop}  (t_v0 : ok G 10 v0) (h : f_X11_row G v0 Q S) : MT yX11_row cX11_row 4 (some .int) rm_X11_row 0 0 (fun b => [.ref (b + v0)]) G S (QI (fun r G1 S1 => G1 = G ∧ Q r S1)) := MT.ofJ (by decide +kernel) (fun b => [(0, .ref (b + v0))]) (fun b => rfl) (fun b => Nat.le_of_ble_eq_true rfl) (fun l b D cy p e s m below meth c C hE hn => j_X11_row C hE t_v0 h)
theorem hd_X11_row : yX11_row.cls ≠ "java/lang/invoke/MethodHandle" ∧ yX11_row.cls ≠ "java/lang/invoke/VarHandle" ∧ (parseMethodDescriptor yX11_row.desc).map (fun d => d.parameters.length) = some 0 := by decide +kernel
abbrev rm_X11_saw : Room := { frames := 2, cells := 0, slots := 0, locals := 46 }
set_option maxHeartbeats 4000000 in
set_option maxRecDepth 100000 in
theorem j_X11_saw {p : Program} {l : Launch} {e : Env} {s : State} {m : MethodId} {args : Array Value} {below : List Frame} {meth : Method} {c : Code} {b : Nat} {D : va_G} {cy : Nat → ClassId} {G : Gm} {v0 : Nat} {v1 : Int32} {v2 : Int32} {S : St} {Q : Int32 → St → Prop} (C : CX p s m args meth c b D cy cX11_saw RX11 4 (some .int)) (hE : s.heap.size + 0 ≤ b + G.2.2) (t_v0 : ok G 10 v0) (h : f_X11_saw G v0 v1 v2 Q S) : J p l e rm_X11_saw s m args below meth c b D cy 4 (zI b D cy below args s G Q) 0 0 G S 0 [(0, .ref (b + v0)), (1, .int v1), (2, .int v2)] [] := by
  unfold f_X11_saw at h
  refine jB C [(.aload_n 0, 1, 0), (.iconst 0, 1, 0)] 2 [(0, .ref (b + v0)), (1, .int v1), (2, .int v2)] [.int 0, .ref (b + v0)] (by decide +kernel) rfl rfl ?_
  refine jPutI C 5 (by decide +kernel : decode cX11_saw 2 = .ok (.putfield 165, 3)) rfl hE t_v0 kX11 0 (by decide) rfl rfl (by decide) rfl wd_1154 rfl rfl rfl ?_
  refine jTopS (fun S1 e_S1 => ?_)
  have h := h S1 e_S1
  refine jB C [(.iload_n 2, 1, 0)] 6 [(0, .ref (b + v0)), (1, .int v1), (2, .int v2)] [.int v2] (by decide +kernel) rfl rfl ?_
  refine jcS_I C 9 (rest := []) (ok_X11_isSight h) (by decide +kernel : decode cX11_saw 6 = .ok (.invokestatic 247, 3)) rfl wd_1474 wd_1475 wd_12 wd_1476 ⟨rfl, rfl⟩ hd_X11_isSight ⟨Nat.le_of_ble_eq_true rfl, Nat.le_of_ble_eq_true rfl⟩ rfl rfl (Nat.le_of_ble_eq_true rfl) ⟨Nat.zero_le _, Nat.zero_le _⟩ (fun r3 S2 h => ?_)
  refine jIf_ne C 12 18 (by decide +kernel : decode cX11_saw 9 = .ok (.ifCond .ne 9, 3)) rfl rfl (fun c4 => ?_) (fun c4 => ?_)
  · have h := it2 h c4
    refine jB C [(.aload_n 0, 1, 0), (.iload_n 1, 1, 0)] 20 [(0, .ref (b + v0)), (1, .int v1), (2, .int v2)] [.int v1, .ref (b + v0)] (by decide +kernel) rfl rfl ?_
    refine jcV_I C 23 (rest := []) (ok_X11_isPerson t_v0 h) (by decide +kernel : decode cX11_saw 20 = .ok (.invokevirtual 209, 3)) rfl wd_1376 wd_1378 wp_103 wd_12 wd_1379 ⟨rfl, rfl⟩ hd_X11_isPerson ⟨Nat.le_of_ble_eq_true rfl, Nat.le_of_ble_eq_true rfl⟩ t_v0 kX11 (by decide) rfl rfl rfl (Nat.le_of_ble_eq_true rfl) ⟨Nat.zero_le _, Nat.zero_le _⟩ (fun r6 S5 h => ?_)
    refine jIf_ne C 26 33 (by decide +kernel : decode cX11_saw 23 = .ok (.ifCond .ne 10, 3)) rfl rfl (fun c7 => ?_) (fun c7 => ?_)
    · have h := it2 h c7
      refine jB C [(.aload_n 0, 1, 0)] 34 [(0, .ref (b + v0)), (1, .int v1), (2, .int v2)] [.ref (b + v0)] (by decide +kernel) rfl rfl ?_
      obtain ⟨a8, e_a8, h⟩ := h
      refine jGetR C 37 (by decide +kernel : decode cX11_saw 34 = .ok (.getfield 16, 3)) rfl t_v0 kX11 4 (by decide) rfl rfl (by decide) wd_1158 e_a8 rfl (fun t_a8 => ?_)
      refine jB C [(.iconst 1, 1, 1)] 38 [(0, .ref (b + v0)), (1, .int v1), (2, .int v2)] [.int 1, .ref (b + a8)] (by decide +kernel) rfl rfl ?_
      obtain ⟨y9, h⟩ := h
      refine jIald C 39 (by decide +kernel : decode cX11_saw 38 = .ok (.iaload, 1)) rfl t_a8 y9 ?_
      refine jTopI (fun x10 e_x10 => ?_)
      have h := h x10 e_x10
      refine jB C [(.istore_n 3, 1, 0), (.iload_n 3, 1, 0), (.bipush 8, 2, 8)] 43 [(3, .int x10), (0, .ref (b + v0)), (1, .int v1), (2, .int v2)] [.int 8, .int x10] (by decide +kernel) rfl rfl ?_
      refine jIcmp_ne C 46 53 (by decide +kernel : decode cX11_saw 43 = .ok (.if_icmp .ne 10, 3)) rfl rfl (fun c11 => ?_) (fun c11 => ?_)
      · have h := it2 h c11
        refine jB C [(.aload_n 0, 1, 0)] 54 [(3, .int x10), (0, .ref (b + v0)), (1, .int v1), (2, .int v2)] [.ref (b + v0)] (by decide +kernel) rfl rfl ?_
        obtain ⟨a12, e_a12, h⟩ := h
        refine jGetR C 57 (by decide +kernel : decode cX11_saw 54 = .ok (.getfield 16, 3)) rfl t_v0 kX11 4 (by decide) rfl rfl (by decide) wd_1158 e_a12 rfl (fun t_a12 => ?_)
        refine jB C [(.bipush 68, 2, 68), (.iconst 2, 1, 2), (.iload_n 3, 1, 0), (.imul, 1, 0), (.iadd, 1, 0), (.iload_n 1, 1, 0)] 64 [(3, .int x10), (0, .ref (b + v0)), (1, .int v1), (2, .int v2)] [.int v1, .int (68 + (2 * x10)), .ref (b + a12)] (by decide +kernel) rfl rfl ?_
        obtain ⟨y13, h⟩ := h
        refine jIast C 65 (by decide +kernel : decode cX11_saw 64 = .ok (.iastore, 1)) rfl hE t_a12 y13 ?_
        refine jTopS (fun S14 e_S14 => ?_)
        have h := h S14 e_S14
        refine jB C [(.aload_n 0, 1, 0)] 66 [(3, .int x10), (0, .ref (b + v0)), (1, .int v1), (2, .int v2)] [.ref (b + v0)] (by decide +kernel) rfl rfl ?_
        obtain ⟨a15, e_a15, h⟩ := h
        refine jGetR C 69 (by decide +kernel : decode cX11_saw 66 = .ok (.getfield 16, 3)) rfl t_v0 kX11 4 (by decide) rfl rfl (by decide) wd_1158 e_a15 rfl (fun t_a15 => ?_)
        refine jB C [(.bipush 68, 2, 68), (.iconst 2, 1, 2), (.iload_n 3, 1, 0), (.imul, 1, 0), (.iadd, 1, 0), (.iconst 1, 1, 1), (.iadd, 1, 0), (.iload_n 2, 1, 0)] 78 [(3, .int x10), (0, .ref (b + v0)), (1, .int v1), (2, .int v2)] [.int v2, .int ((68 + (2 * x10)) + 1), .ref (b + a15)] (by decide +kernel) rfl rfl ?_
        obtain ⟨y16, h⟩ := h
        refine jIast C 79 (by decide +kernel : decode cX11_saw 78 = .ok (.iastore, 1)) rfl hE t_a15 y16 ?_
        refine jTopS (fun S17 e_S17 => ?_)
        have h := h S17 e_S17
        refine jB C [(.aload_n 0, 1, 0)] 80 [(3, .int x10), (0, .ref (b + v0)), (1, .int v1), (2, .int v2)] [.ref (b + v0)] (by decide +kernel) rfl rfl ?_
        obtain ⟨a18, e_a18, h⟩ := h
        refine jGetR C 83 (by decide +kernel : decode cX11_saw 80 = .ok (.getfield 16, 3)) rfl t_v0 kX11 4 (by decide) rfl rfl (by decide) wd_1158 e_a18 rfl (fun t_a18 => ?_)
        refine jB C [(.iconst 1, 1, 1), (.dup2, 1, 0)] 85 [(3, .int x10), (0, .ref (b + v0)), (1, .int v1), (2, .int v2)] [.int 1, .ref (b + a18), .int 1, .ref (b + a18)] (by decide +kernel) rfl rfl ?_
        obtain ⟨y19, h⟩ := h
        refine jIald C 86 (by decide +kernel : decode cX11_saw 85 = .ok (.iaload, 1)) rfl t_a18 y19 ?_
        refine jB C [(.iconst 1, 1, 1), (.iadd, 1, 0)] 88 [(3, .int x10), (0, .ref (b + v0)), (1, .int v1), (2, .int v2)] [.int ((S17.1 a18 (1 : Int32).toNatClampNeg) + 1), .int 1, .ref (b + a18)] (by decide +kernel) rfl rfl ?_
        obtain ⟨y20, h⟩ := h
        refine jIast C 89 (by decide +kernel : decode cX11_saw 88 = .ok (.iastore, 1)) rfl hE t_a18 y20 ?_
        refine jTopS (fun S21 e_S21 => ?_)
        have h := h S21 e_S21
        refine jB C [(.aload_n 0, 1, 0), (.iload_n 3, 1, 0), (.iconst 1, 1, 1), (.iadd, 1, 0)] 93 [(3, .int x10), (0, .ref (b + v0)), (1, .int v1), (2, .int v2)] [.int (x10 + 1), .ref (b + v0)] (by decide +kernel) rfl rfl ?_
        refine jcV_I C 96 (rest := []) (ok_X11_tell t_v0 h) (by decide +kernel : decode cX11_saw 93 = .ok (.invokevirtual 174, 3)) rfl wd_1340 wd_1342 wp_99 wd_12 wd_1343 ⟨rfl, rfl⟩ hd_X11_tell ⟨Nat.le_of_ble_eq_true rfl, Nat.le_of_ble_eq_true rfl⟩ t_v0 kX11 (by decide) rfl rfl rfl (Nat.le_of_ble_eq_true rfl) ⟨Nat.zero_le _, Nat.zero_le _⟩ (fun r23 S22 h => ?_)
        exact jRetI C (by decide +kernel : decode cX11_saw 96 = .ok (.ireturn, 1)) (Nat.le_refl _) (Nat.le_refl _) ⟨rfl, h⟩
      · have h := it1 h c11
        refine jB C [(.aload_n 0, 1, 0), (.bipush (-5), 2, (-5))] 49 [(3, .int x10), (0, .ref (b + v0)), (1, .int v1), (2, .int v2)] [.int (-5), .ref (b + v0)] (by decide +kernel) rfl rfl ?_
        refine jcV_I C 52 (rest := []) (ok_X11_tell t_v0 h) (by decide +kernel : decode cX11_saw 49 = .ok (.invokevirtual 174, 3)) rfl wd_1340 wd_1342 wp_99 wd_12 wd_1343 ⟨rfl, rfl⟩ hd_X11_tell ⟨Nat.le_of_ble_eq_true rfl, Nat.le_of_ble_eq_true rfl⟩ t_v0 kX11 (by decide) rfl rfl rfl (Nat.le_of_ble_eq_true rfl) ⟨Nat.zero_le _, Nat.zero_le _⟩ (fun r25 S24 h => ?_)
        exact jRetI C (by decide +kernel : decode cX11_saw 52 = .ok (.ireturn, 1)) (Nat.le_refl _) (Nat.le_refl _) ⟨rfl, h⟩
    · have h := it1 h c7
      refine jB C [(.aload_n 0, 1, 0), (.bipush (-2), 2, (-2))] 29 [(0, .ref (b + v0)), (1, .int v1), (2, .int v2)] [.int (-2), .ref (b + v0)] (by decide +kernel) rfl rfl ?_
      refine jcV_I C 32 (rest := []) (ok_X11_tell t_v0 h) (by decide +kernel : decode cX11_saw 29 = .ok (.invokevirtual 174, 3)) rfl wd_1340 wd_1342 wp_99 wd_12 wd_1343 ⟨rfl, rfl⟩ hd_X11_tell ⟨Nat.le_of_ble_eq_true rfl, Nat.le_of_ble_eq_true rfl⟩ t_v0 kX11 (by decide) rfl rfl rfl (Nat.le_of_ble_eq_true rfl) ⟨Nat.zero_le _, Nat.zero_le _⟩ (fun r27 S26 h => ?_)
      exact jRetI C (by decide +kernel : decode cX11_saw 32 = .ok (.ireturn, 1)) (Nat.le_refl _) (Nat.le_refl _) ⟨rfl, h⟩
  · have h := it1 h c4
    refine jB C [(.aload_n 0, 1, 0), (.iconst (-1), 1, (-1))] 14 [(0, .ref (b + v0)), (1, .int v1), (2, .int v2)] [.int (-1), .ref (b + v0)] (by decide +kernel) rfl rfl ?_
    refine jcV_I C 17 (rest := []) (ok_X11_tell t_v0 h) (by decide +kernel : decode cX11_saw 14 = .ok (.invokevirtual 174, 3)) rfl wd_1340 wd_1342 wp_99 wd_12 wd_1343 ⟨rfl, rfl⟩ hd_X11_tell ⟨Nat.le_of_ble_eq_true rfl, Nat.le_of_ble_eq_true rfl⟩ t_v0 kX11 (by decide) rfl rfl rfl (Nat.le_of_ble_eq_true rfl) ⟨Nat.zero_le _, Nat.zero_le _⟩ (fun r29 S28 h => ?_)
    exact jRetI C (by decide +kernel : decode cX11_saw 17 = .ok (.ireturn, 1)) (Nat.le_refl _) (Nat.le_refl _) ⟨rfl, h⟩
theorem ok_X11_saw {G : Gm} {v0 : Nat} {v1 : Int32} {v2 : Int32} {S : St} {Q : Int32 → St → Prop}  (t_v0 : ok G 10 v0) (h : f_X11_saw G v0 v1 v2 Q S) : MT yX11_saw cX11_saw 4 (some .int) rm_X11_saw 0 0 (fun b => [.ref (b + v0), .int v1, .int v2]) G S (QI (fun r G1 S1 => G1 = G ∧ Q r S1)) := MT.ofJ (by decide +kernel) (fun b => [(0, .ref (b + v0)), (1, .int v1), (2, .int v2)]) (fun b => rfl) (fun b => Nat.le_of_ble_eq_true rfl) (fun l b D cy p e s m below meth c C hE hn => j_X11_saw C hE t_v0 h)
theorem hd_X11_saw : yX11_saw.cls ≠ "java/lang/invoke/MethodHandle" ∧ yX11_saw.cls ≠ "java/lang/invoke/VarHandle" ∧ (parseMethodDescriptor yX11_saw.desc).map (fun d => d.parameters.length) = some 2 := by decide +kernel
abbrev rm_X11_scenes : Room := { frames := 3, cells := 0, slots := 0, locals := 68 }
set_option maxHeartbeats 4000000 in
set_option maxRecDepth 100000 in
theorem j_X11_scenes_12_n {p : Program} {l : Launch} {e : Env} {s : State} {m : MethodId} {args : Array Value} {below : List Frame} {meth : Method} {c : Code} {b : Nat} {D : va_G} {cy : Nat → ClassId} {G : Gm} {v0 : Nat} {v1 : Int32} {Q : Int32 → St → Prop} (C : CX p s m args meth c b D cy cX11_scenes RX11 5 (some .int)) (hE : s.heap.size + 0 ≤ b + G.2.2) (t_v0 : ok G 10 v0) : ∀ k (v2 : Int32) (v3 : Int32) (v4 : Int32) S, f_X11_scenes_12_n G v0 v1 Q k v2 v3 v4 S → J p l e rm_X11_scenes s m args below meth c b D cy 5 (zI b D cy below args s G Q) 0 0 G S 12 [(0, .ref (b + v0)), (1, .int v1), (2, .int v2), (3, .int v3), (4, .int v4)] [] := by
  intro k
  induction k with
  | zero => intro v2 v3 v4 S h; exact h.elim
  | succ k ih =>
    intro v2 v3 v4 S h
    unfold f_X11_scenes_12_n at h
    refine jB C [(.iload 4, 2, 0), (.sipush 256, 3, 256)] 17 [(0, .ref (b + v0)), (1, .int v1), (2, .int v2), (3, .int v3), (4, .int v4)] [.int 256, .int v4] (by decide +kernel) rfl rfl ?_
    refine jIcmp_ge C 20 50 (by decide +kernel : decode cX11_scenes 17 = .ok (.if_icmp .ge 33, 3)) rfl rfl (fun c1 => ?_) (fun c1 => ?_)
    · have h := it1 h c1
      refine jB C [(.iload_n 1, 1, 0), (.iconst (-1), 1, (-1))] 52 [(0, .ref (b + v0)), (1, .int v1), (2, .int v2), (3, .int v3), (4, .int v4)] [.int (-1), .int v1] (by decide +kernel) rfl rfl ?_
      refine jIcmp_ne C 55 59 (by decide +kernel : decode cX11_scenes 52 = .ok (.if_icmp .ne 7, 3)) rfl rfl (fun c2 => ?_) (fun c2 => ?_)
      · have h := it2 h c2
        refine jB C [(.iload_n 3, 1, 0)] 60 [(0, .ref (b + v0)), (1, .int v1), (2, .int v2), (3, .int v3), (4, .int v4)] [.int v3] (by decide +kernel) rfl rfl ?_
        exact jRetI C (by decide +kernel : decode cX11_scenes 60 = .ok (.ireturn, 1)) (Nat.le_refl _) (Nat.le_refl _) ⟨rfl, h⟩
      · have h := it1 h c2
        refine jB C [(.iload_n 2, 1, 0)] 56 [(0, .ref (b + v0)), (1, .int v1), (2, .int v2), (3, .int v3), (4, .int v4)] [.int v2] (by decide +kernel) rfl rfl ?_
        refine jGoto C 60 (by decide +kernel : decode cX11_scenes 56 = .ok (.goto 4, 3)) rfl ?_
        exact jRetI C (by decide +kernel : decode cX11_scenes 60 = .ok (.ireturn, 1)) (Nat.le_refl _) (Nat.le_refl _) ⟨rfl, h⟩
    · have h := it2 h c1
      refine jB C [(.aload_n 0, 1, 0), (.iload 4, 2, 0)] 23 [(0, .ref (b + v0)), (1, .int v1), (2, .int v2), (3, .int v3), (4, .int v4)] [.int v4, .ref (b + v0)] (by decide +kernel) rfl rfl ?_
      refine jcV_I C 26 (rest := []) (ok_X11_allSee t_v0 h) (by decide +kernel : decode cX11_scenes 23 = .ok (.invokevirtual 502, 3)) rfl wd_1728 wd_1730 wp_156 wd_12 wd_1731 ⟨rfl, rfl⟩ hd_X11_allSee ⟨Nat.le_of_ble_eq_true rfl, Nat.le_of_ble_eq_true rfl⟩ t_v0 kX11 (by decide) rfl rfl rfl (Nat.le_of_ble_eq_true rfl) ⟨Nat.zero_le _, Nat.zero_le _⟩ (fun r4 S3 h => ?_)
      refine jIf_eq C 29 44 (by decide +kernel : decode cX11_scenes 26 = .ok (.ifCond .eq 18, 3)) rfl rfl (fun c5 => ?_) (fun c5 => ?_)
      · have h := it1 h c5
        refine jB C [(.iinc 4 1, 3, 1)] 47 [(4, .int (v4 + 1)), (0, .ref (b + v0)), (1, .int v1), (2, .int v2), (3, .int v3)] [] (by decide +kernel) rfl rfl ?_
        refine jGoto C 12 (by decide +kernel : decode cX11_scenes 47 = .ok (.goto (-35), 3)) rfl ?_
        refine jSub [1, 2, 3, 4, 0] rfl ?_
        exact ih v2 v3 (v4 + 1) S3 h
      · have h := it2 h c5
        refine jB C [(.iload_n 2, 1, 0), (.iload_n 1, 1, 0)] 31 [(0, .ref (b + v0)), (1, .int v1), (2, .int v2), (3, .int v3), (4, .int v4)] [.int v1, .int v2] (by decide +kernel) rfl rfl ?_
        refine jIcmp_ne C 34 39 (by decide +kernel : decode cX11_scenes 31 = .ok (.if_icmp .ne 8, 3)) rfl rfl (fun c6 => ?_) (fun c6 => ?_)
        · have h := it2 h c6
          refine jB C [(.iload_n 3, 1, 0), (.istore_n 3, 1, 0), (.iinc 2 1, 3, 1), (.iinc 4 1, 3, 1)] 47 [(4, .int (v4 + 1)), (2, .int (v2 + 1)), (3, .int v3), (0, .ref (b + v0)), (1, .int v1)] [] (by decide +kernel) rfl rfl ?_
          refine jGoto C 12 (by decide +kernel : decode cX11_scenes 47 = .ok (.goto (-35), 3)) rfl ?_
          refine jSub [3, 4, 1, 2, 0] rfl ?_
          exact ih (v2 + 1) v3 (v4 + 1) S3 h
        · have h := it1 h c6
          refine jB C [(.iload 4, 2, 0)] 36 [(0, .ref (b + v0)), (1, .int v1), (2, .int v2), (3, .int v3), (4, .int v4)] [.int v4] (by decide +kernel) rfl rfl ?_
          refine jGoto C 40 (by decide +kernel : decode cX11_scenes 36 = .ok (.goto 4, 3)) rfl ?_
          refine jB C [(.istore_n 3, 1, 0), (.iinc 2 1, 3, 1), (.iinc 4 1, 3, 1)] 47 [(4, .int (v4 + 1)), (2, .int (v2 + 1)), (3, .int v4), (0, .ref (b + v0)), (1, .int v1)] [] (by decide +kernel) rfl rfl ?_
          refine jGoto C 12 (by decide +kernel : decode cX11_scenes 47 = .ok (.goto (-35), 3)) rfl ?_
          refine jSub [3, 4, 1, 2, 0] rfl ?_
          exact ih (v2 + 1) v4 (v4 + 1) S3 h
theorem j_X11_scenes_12 {p : Program} {l : Launch} {e : Env} {s : State} {m : MethodId} {args : Array Value} {below : List Frame} {meth : Method} {c : Code} {b : Nat} {D : va_G} {cy : Nat → ClassId} {G : Gm} {v0 : Nat} {v1 : Int32} {v2 : Int32} {v3 : Int32} {v4 : Int32} {S : St} {Q : Int32 → St → Prop} (C : CX p s m args meth c b D cy cX11_scenes RX11 5 (some .int)) (hE : s.heap.size + 0 ≤ b + G.2.2) (t_v0 : ok G 10 v0) (h : f_X11_scenes_12 G v0 v1 Q v2 v3 v4 S) : J p l e rm_X11_scenes s m args below meth c b D cy 5 (zI b D cy below args s G Q) 0 0 G S 12 [(0, .ref (b + v0)), (1, .int v1), (2, .int v2), (3, .int v3), (4, .int v4)] [] := by
  obtain ⟨k, h⟩ := h
  exact j_X11_scenes_12_n C hE t_v0 k v2 v3 v4 S h
set_option maxHeartbeats 4000000 in
set_option maxRecDepth 100000 in
theorem j_X11_scenes {p : Program} {l : Launch} {e : Env} {s : State} {m : MethodId} {args : Array Value} {below : List Frame} {meth : Method} {c : Code} {b : Nat} {D : va_G} {cy : Nat → ClassId} {G : Gm} {v0 : Nat} {v1 : Int32} {S : St} {Q : Int32 → St → Prop} (C : CX p s m args meth c b D cy cX11_scenes RX11 5 (some .int)) (hE : s.heap.size + 0 ≤ b + G.2.2) (t_v0 : ok G 10 v0) (h : f_X11_scenes G v0 v1 Q S) : J p l e rm_X11_scenes s m args below meth c b D cy 5 (zI b D cy below args s G Q) 0 0 G S 0 [(0, .ref (b + v0)), (1, .int v1)] [] := by
  unfold f_X11_scenes at h
  refine jB C [(.aload_n 0, 1, 0), (.iconst 0, 1, 0)] 2 [(0, .ref (b + v0)), (1, .int v1)] [.int 0, .ref (b + v0)] (by decide +kernel) rfl rfl ?_
  refine jPutI C 5 (by decide +kernel : decode cX11_scenes 2 = .ok (.putfield 165, 3)) rfl hE t_v0 kX11 0 (by decide) rfl rfl (by decide) rfl wd_1154 rfl rfl rfl ?_
  refine jTopS (fun S1 e_S1 => ?_)
  have h := h S1 e_S1
  refine jB C [(.iconst 0, 1, 0), (.istore_n 2, 1, 0), (.iconst (-1), 1, (-1)), (.istore_n 3, 1, 0), (.iconst 0, 1, 0), (.istore 4, 2, 0)] 12 [(4, .int 0), (3, .int (-1)), (2, .int 0), (0, .ref (b + v0)), (1, .int v1)] [] (by decide +kernel) rfl rfl ?_
  refine jSub [3, 4, 2, 1, 0] rfl ?_
  exact j_X11_scenes_12 C hE t_v0 h
theorem ok_X11_scenes {G : Gm} {v0 : Nat} {v1 : Int32} {S : St} {Q : Int32 → St → Prop}  (t_v0 : ok G 10 v0) (h : f_X11_scenes G v0 v1 Q S) : MT yX11_scenes cX11_scenes 5 (some .int) rm_X11_scenes 0 0 (fun b => [.ref (b + v0), .int v1]) G S (QI (fun r G1 S1 => G1 = G ∧ Q r S1)) := MT.ofJ (by decide +kernel) (fun b => [(0, .ref (b + v0)), (1, .int v1)]) (fun b => rfl) (fun b => Nat.le_of_ble_eq_true rfl) (fun l b D cy p e s m below meth c C hE hn => j_X11_scenes C hE t_v0 h)
theorem hd_X11_scenes : yX11_scenes.cls ≠ "java/lang/invoke/MethodHandle" ∧ yX11_scenes.cls ≠ "java/lang/invoke/VarHandle" ∧ (parseMethodDescriptor yX11_scenes.desc).map (fun d => d.parameters.length) = some 1 := by decide +kernel
abbrev rm_X11_sin : Room := { frames := 3, cells := 0, slots := 0, locals := 70 }
set_option maxHeartbeats 4000000 in
set_option maxRecDepth 100000 in
theorem j_X11_sin {p : Program} {l : Launch} {e : Env} {s : State} {m : MethodId} {args : Array Value} {below : List Frame} {meth : Method} {c : Code} {b : Nat} {D : va_G} {cy : Nat → ClassId} {G : Gm} {v0 : Nat} {v1 : Int32} {v2 : Int32} {v3 : Int32} {S : St} {Q : Int32 → St → Prop} (C : CX p s m args meth c b D cy cX11_sin RX11 4 (some .int)) (hE : s.heap.size + 0 ≤ b + G.2.2) (t_v0 : ok G 10 v0) (h : f_X11_sin G v0 v1 v2 v3 Q S) : J p l e rm_X11_sin s m args below meth c b D cy 4 (zI b D cy below args s G Q) 0 0 G S 0 [(0, .ref (b + v0)), (1, .int v1), (2, .int v2), (3, .int v3)] [] := by
  unfold f_X11_sin at h
  refine jB C [(.aload_n 0, 1, 0), (.iconst 0, 1, 0)] 2 [(0, .ref (b + v0)), (1, .int v1), (2, .int v2), (3, .int v3)] [.int 0, .ref (b + v0)] (by decide +kernel) rfl rfl ?_
  refine jPutI C 5 (by decide +kernel : decode cX11_sin 2 = .ok (.putfield 165, 3)) rfl hE t_v0 kX11 0 (by decide) rfl rfl (by decide) rfl wd_1154 rfl rfl rfl ?_
  refine jTopS (fun S1 e_S1 => ?_)
  have h := h S1 e_S1
  refine jB C [(.aload_n 0, 1, 0), (.aload_n 0, 1, 0), (.iload_n 1, 1, 0), (.iload_n 2, 1, 0), (.iload_n 3, 1, 0)] 10 [(0, .ref (b + v0)), (1, .int v1), (2, .int v2), (3, .int v3)] [.int v3, .int v2, .int v1, .ref (b + v0), .ref (b + v0)] (by decide +kernel) rfl rfl ?_
  refine jcV_I C 13 (rest := [.ref (b + v0)]) (ok_X11_sinNow t_v0 h) (by decide +kernel : decode cX11_sin 10 = .ok (.invokevirtual 467, 3)) rfl wd_1642 wd_1644 wp_143 wd_12 wd_1645 ⟨rfl, rfl⟩ hd_X11_sinNow ⟨Nat.le_of_ble_eq_true rfl, Nat.le_of_ble_eq_true rfl⟩ t_v0 kX11 (by decide) rfl rfl rfl (Nat.le_of_ble_eq_true rfl) ⟨Nat.zero_le _, Nat.zero_le _⟩ (fun r3 S2 h => ?_)
  refine jcV_I C 16 (rest := []) (ok_X11_tell t_v0 h) (by decide +kernel : decode cX11_sin 13 = .ok (.invokevirtual 174, 3)) rfl wd_1340 wd_1342 wp_99 wd_12 wd_1343 ⟨rfl, rfl⟩ hd_X11_tell ⟨Nat.le_of_ble_eq_true rfl, Nat.le_of_ble_eq_true rfl⟩ t_v0 kX11 (by decide) rfl rfl rfl (Nat.le_of_ble_eq_true rfl) ⟨Nat.zero_le _, Nat.zero_le _⟩ (fun r5 S4 h => ?_)
  exact jRetI C (by decide +kernel : decode cX11_sin 16 = .ok (.ireturn, 1)) (Nat.le_refl _) (Nat.le_refl _) ⟨rfl, h⟩
theorem ok_X11_sin {G : Gm} {v0 : Nat} {v1 : Int32} {v2 : Int32} {v3 : Int32} {S : St} {Q : Int32 → St → Prop}  (t_v0 : ok G 10 v0) (h : f_X11_sin G v0 v1 v2 v3 Q S) : MT yX11_sin cX11_sin 4 (some .int) rm_X11_sin 0 0 (fun b => [.ref (b + v0), .int v1, .int v2, .int v3]) G S (QI (fun r G1 S1 => G1 = G ∧ Q r S1)) := MT.ofJ (by decide +kernel) (fun b => [(0, .ref (b + v0)), (1, .int v1), (2, .int v2), (3, .int v3)]) (fun b => rfl) (fun b => Nat.le_of_ble_eq_true rfl) (fun l b D cy p e s m below meth c C hE hn => j_X11_sin C hE t_v0 h)
theorem hd_X11_sin : yX11_sin.cls ≠ "java/lang/invoke/MethodHandle" ∧ yX11_sin.cls ≠ "java/lang/invoke/VarHandle" ∧ (parseMethodDescriptor yX11_sin.desc).map (fun d => d.parameters.length) = some 3 := by decide +kernel
abbrev rm_X11_smears : Room := { frames := 0, cells := 0, slots := 0, locals := 0 }
set_option maxHeartbeats 4000000 in
set_option maxRecDepth 100000 in
theorem j_X11_smears {p : Program} {l : Launch} {e : Env} {s : State} {m : MethodId} {args : Array Value} {below : List Frame} {meth : Method} {c : Code} {b : Nat} {D : va_G} {cy : Nat → ClassId} {G : Gm} {v0 : Nat} {S : St} {Q : Int32 → St → Prop} (C : CX p s m args meth c b D cy cX11_smears RX11 1 (some .int)) (hE : s.heap.size + 0 ≤ b + G.2.2) (t_v0 : ok G 10 v0) (h : f_X11_smears G v0 Q S) : J p l e rm_X11_smears s m args below meth c b D cy 1 (zI b D cy below args s G Q) 0 0 G S 0 [(0, .ref (b + v0))] [] := by
  unfold f_X11_smears at h
  refine jB C [(.aload_n 0, 1, 0), (.iconst 0, 1, 0)] 2 [(0, .ref (b + v0))] [.int 0, .ref (b + v0)] (by decide +kernel) rfl rfl ?_
  refine jPutI C 5 (by decide +kernel : decode cX11_smears 2 = .ok (.putfield 165, 3)) rfl hE t_v0 kX11 0 (by decide) rfl rfl (by decide) rfl wd_1154 rfl rfl rfl ?_
  refine jTopS (fun S1 e_S1 => ?_)
  have h := h S1 e_S1
  refine jB C [(.aload_n 0, 1, 0)] 6 [(0, .ref (b + v0))] [.ref (b + v0)] (by decide +kernel) rfl rfl ?_
  refine jGetI C 9 (by decide +kernel : decode cX11_smears 6 = .ok (.getfield 262, 3)) rfl t_v0 kX11 12 (by decide) rfl rfl (by decide) wd_1166 ?_
  exact jRetI C (by decide +kernel : decode cX11_smears 9 = .ok (.ireturn, 1)) (Nat.le_refl _) (Nat.le_refl _) ⟨rfl, h⟩
theorem ok_X11_smears {G : Gm} {v0 : Nat} {S : St} {Q : Int32 → St → Prop}  (t_v0 : ok G 10 v0) (h : f_X11_smears G v0 Q S) : MT yX11_smears cX11_smears 1 (some .int) rm_X11_smears 0 0 (fun b => [.ref (b + v0)]) G S (QI (fun r G1 S1 => G1 = G ∧ Q r S1)) := MT.ofJ (by decide +kernel) (fun b => [(0, .ref (b + v0))]) (fun b => rfl) (fun b => Nat.le_of_ble_eq_true rfl) (fun l b D cy p e s m below meth c C hE hn => j_X11_smears C hE t_v0 h)
theorem hd_X11_smears : yX11_smears.cls ≠ "java/lang/invoke/MethodHandle" ∧ yX11_smears.cls ≠ "java/lang/invoke/VarHandle" ∧ (parseMethodDescriptor yX11_smears.desc).map (fun d => d.parameters.length) = some 0 := by decide +kernel
abbrev rm_X11_status : Room := { frames := 0, cells := 0, slots := 0, locals := 0 }
set_option maxHeartbeats 4000000 in
set_option maxRecDepth 100000 in
theorem j_X11_status {p : Program} {l : Launch} {e : Env} {s : State} {m : MethodId} {args : Array Value} {below : List Frame} {meth : Method} {c : Code} {b : Nat} {D : va_G} {cy : Nat → ClassId} {G : Gm} {v0 : Nat} {S : St} {Q : Int32 → St → Prop} (C : CX p s m args meth c b D cy cX11_status RX11 1 (some .int)) (hE : s.heap.size + 0 ≤ b + G.2.2) (t_v0 : ok G 10 v0) (h : f_X11_status G v0 Q S) : J p l e rm_X11_status s m args below meth c b D cy 1 (zI b D cy below args s G Q) 0 0 G S 0 [(0, .ref (b + v0))] [] := by
  unfold f_X11_status at h
  refine jB C [(.aload_n 0, 1, 0), (.iconst 0, 1, 0)] 2 [(0, .ref (b + v0))] [.int 0, .ref (b + v0)] (by decide +kernel) rfl rfl ?_
  refine jPutI C 5 (by decide +kernel : decode cX11_status 2 = .ok (.putfield 165, 3)) rfl hE t_v0 kX11 0 (by decide) rfl rfl (by decide) rfl wd_1154 rfl rfl rfl ?_
  refine jTopS (fun S1 e_S1 => ?_)
  have h := h S1 e_S1
  refine jB C [(.aload_n 0, 1, 0)] 6 [(0, .ref (b + v0))] [.ref (b + v0)] (by decide +kernel) rfl rfl ?_
  refine jGetI C 9 (by decide +kernel : decode cX11_status 6 = .ok (.getfield 168, 3)) rfl t_v0 kX11 1 (by decide) rfl rfl (by decide) wd_1155 ?_
  exact jRetI C (by decide +kernel : decode cX11_status 9 = .ok (.ireturn, 1)) (Nat.le_refl _) (Nat.le_refl _) ⟨rfl, h⟩
theorem ok_X11_status {G : Gm} {v0 : Nat} {S : St} {Q : Int32 → St → Prop}  (t_v0 : ok G 10 v0) (h : f_X11_status G v0 Q S) : MT yX11_status cX11_status 1 (some .int) rm_X11_status 0 0 (fun b => [.ref (b + v0)]) G S (QI (fun r G1 S1 => G1 = G ∧ Q r S1)) := MT.ofJ (by decide +kernel) (fun b => [(0, .ref (b + v0))]) (fun b => rfl) (fun b => Nat.le_of_ble_eq_true rfl) (fun l b D cy p e s m below meth c C hE hn => j_X11_status C hE t_v0 h)
theorem hd_X11_status : yX11_status.cls ≠ "java/lang/invoke/MethodHandle" ∧ yX11_status.cls ≠ "java/lang/invoke/VarHandle" ∧ (parseMethodDescriptor yX11_status.desc).map (fun d => d.parameters.length) = some 0 := by decide +kernel
abbrev rm_X11_stopped : Room := { frames := 0, cells := 0, slots := 0, locals := 0 }
set_option maxHeartbeats 4000000 in
set_option maxRecDepth 100000 in
theorem j_X11_stopped {p : Program} {l : Launch} {e : Env} {s : State} {m : MethodId} {args : Array Value} {below : List Frame} {meth : Method} {c : Code} {b : Nat} {D : va_G} {cy : Nat → ClassId} {G : Gm} {v0 : Nat} {S : St} {Q : Int32 → St → Prop} (C : CX p s m args meth c b D cy cX11_stopped RX11 1 (some .int)) (hE : s.heap.size + 0 ≤ b + G.2.2) (t_v0 : ok G 10 v0) (h : f_X11_stopped G v0 Q S) : J p l e rm_X11_stopped s m args below meth c b D cy 1 (zI b D cy below args s G Q) 0 0 G S 0 [(0, .ref (b + v0))] [] := by
  unfold f_X11_stopped at h
  refine jB C [(.aload_n 0, 1, 0), (.iconst 0, 1, 0)] 2 [(0, .ref (b + v0))] [.int 0, .ref (b + v0)] (by decide +kernel) rfl rfl ?_
  refine jPutI C 5 (by decide +kernel : decode cX11_stopped 2 = .ok (.putfield 165, 3)) rfl hE t_v0 kX11 0 (by decide) rfl rfl (by decide) rfl wd_1154 rfl rfl rfl ?_
  refine jTopS (fun S1 e_S1 => ?_)
  have h := h S1 e_S1
  refine jB C [(.aload_n 0, 1, 0)] 6 [(0, .ref (b + v0))] [.ref (b + v0)] (by decide +kernel) rfl rfl ?_
  refine jGetI C 9 (by decide +kernel : decode cX11_stopped 6 = .ok (.getfield 152, 3)) rfl t_v0 kX11 55 (by decide) rfl rfl (by decide) wd_1209 ?_
  exact jRetI C (by decide +kernel : decode cX11_stopped 9 = .ok (.ireturn, 1)) (Nat.le_refl _) (Nat.le_refl _) ⟨rfl, h⟩
theorem ok_X11_stopped {G : Gm} {v0 : Nat} {S : St} {Q : Int32 → St → Prop}  (t_v0 : ok G 10 v0) (h : f_X11_stopped G v0 Q S) : MT yX11_stopped cX11_stopped 1 (some .int) rm_X11_stopped 0 0 (fun b => [.ref (b + v0)]) G S (QI (fun r G1 S1 => G1 = G ∧ Q r S1)) := MT.ofJ (by decide +kernel) (fun b => [(0, .ref (b + v0))]) (fun b => rfl) (fun b => Nat.le_of_ble_eq_true rfl) (fun l b D cy p e s m below meth c C hE hn => j_X11_stopped C hE t_v0 h)
theorem hd_X11_stopped : yX11_stopped.cls ≠ "java/lang/invoke/MethodHandle" ∧ yX11_stopped.cls ≠ "java/lang/invoke/VarHandle" ∧ (parseMethodDescriptor yX11_stopped.desc).map (fun d => d.parameters.length) = some 0 := by decide +kernel
abbrev rm_X11_swap : Room := { frames := 3, cells := 0, slots := 0, locals := 68 }
set_option maxHeartbeats 4000000 in
set_option maxRecDepth 100000 in
theorem j_X11_swap {p : Program} {l : Launch} {e : Env} {s : State} {m : MethodId} {args : Array Value} {below : List Frame} {meth : Method} {c : Code} {b : Nat} {D : va_G} {cy : Nat → ClassId} {G : Gm} {v0 : Nat} {v1 : Int32} {v2 : Int32} {S : St} {Q : Int32 → St → Prop} (C : CX p s m args meth c b D cy cX11_swap RX11 3 (some .int)) (hE : s.heap.size + 0 ≤ b + G.2.2) (t_v0 : ok G 10 v0) (h : f_X11_swap G v0 v1 v2 Q S) : J p l e rm_X11_swap s m args below meth c b D cy 3 (zI b D cy below args s G Q) 0 0 G S 0 [(0, .ref (b + v0)), (1, .int v1), (2, .int v2)] [] := by
  unfold f_X11_swap at h
  refine jB C [(.aload_n 0, 1, 0), (.iconst 0, 1, 0)] 2 [(0, .ref (b + v0)), (1, .int v1), (2, .int v2)] [.int 0, .ref (b + v0)] (by decide +kernel) rfl rfl ?_
  refine jPutI C 5 (by decide +kernel : decode cX11_swap 2 = .ok (.putfield 165, 3)) rfl hE t_v0 kX11 0 (by decide) rfl rfl (by decide) rfl wd_1154 rfl rfl rfl ?_
  refine jTopS (fun S1 e_S1 => ?_)
  have h := h S1 e_S1
  refine jB C [(.aload_n 0, 1, 0), (.aload_n 0, 1, 0), (.iload_n 1, 1, 0), (.iload_n 2, 1, 0)] 9 [(0, .ref (b + v0)), (1, .int v1), (2, .int v2)] [.int v2, .int v1, .ref (b + v0), .ref (b + v0)] (by decide +kernel) rfl rfl ?_
  refine jcV_I C 12 (rest := [.ref (b + v0)]) (ok_X11_swapNow t_v0 h) (by decide +kernel : decode cX11_swap 9 = .ok (.invokevirtual 483, 3)) rfl wd_1675 wd_1677 wp_149 wd_12 wd_1678 ⟨rfl, rfl⟩ hd_X11_swapNow ⟨Nat.le_of_ble_eq_true rfl, Nat.le_of_ble_eq_true rfl⟩ t_v0 kX11 (by decide) rfl rfl rfl (Nat.le_of_ble_eq_true rfl) ⟨Nat.zero_le _, Nat.zero_le _⟩ (fun r3 S2 h => ?_)
  refine jcV_I C 15 (rest := []) (ok_X11_tell t_v0 h) (by decide +kernel : decode cX11_swap 12 = .ok (.invokevirtual 174, 3)) rfl wd_1340 wd_1342 wp_99 wd_12 wd_1343 ⟨rfl, rfl⟩ hd_X11_tell ⟨Nat.le_of_ble_eq_true rfl, Nat.le_of_ble_eq_true rfl⟩ t_v0 kX11 (by decide) rfl rfl rfl (Nat.le_of_ble_eq_true rfl) ⟨Nat.zero_le _, Nat.zero_le _⟩ (fun r5 S4 h => ?_)
  exact jRetI C (by decide +kernel : decode cX11_swap 15 = .ok (.ireturn, 1)) (Nat.le_refl _) (Nat.le_refl _) ⟨rfl, h⟩
theorem ok_X11_swap {G : Gm} {v0 : Nat} {v1 : Int32} {v2 : Int32} {S : St} {Q : Int32 → St → Prop}  (t_v0 : ok G 10 v0) (h : f_X11_swap G v0 v1 v2 Q S) : MT yX11_swap cX11_swap 3 (some .int) rm_X11_swap 0 0 (fun b => [.ref (b + v0), .int v1, .int v2]) G S (QI (fun r G1 S1 => G1 = G ∧ Q r S1)) := MT.ofJ (by decide +kernel) (fun b => [(0, .ref (b + v0)), (1, .int v1), (2, .int v2)]) (fun b => rfl) (fun b => Nat.le_of_ble_eq_true rfl) (fun l b D cy p e s m below meth c C hE hn => j_X11_swap C hE t_v0 h)
theorem hd_X11_swap : yX11_swap.cls ≠ "java/lang/invoke/MethodHandle" ∧ yX11_swap.cls ≠ "java/lang/invoke/VarHandle" ∧ (parseMethodDescriptor yX11_swap.desc).map (fun d => d.parameters.length) = some 2 := by decide +kernel
abbrev rm_X11_terms : Room := { frames := 3, cells := 0, slots := 0, locals := 66 }
set_option maxHeartbeats 4000000 in
set_option maxRecDepth 100000 in
theorem j_X11_terms {p : Program} {l : Launch} {e : Env} {s : State} {m : MethodId} {args : Array Value} {below : List Frame} {meth : Method} {c : Code} {b : Nat} {D : va_G} {cy : Nat → ClassId} {G : Gm} {v0 : Nat} {v1 : Int32} {v2 : Int32} {S : St} {Q : Int32 → St → Prop} (C : CX p s m args meth c b D cy cX11_terms RX11 3 (some .int)) (hE : s.heap.size + 0 ≤ b + G.2.2) (t_v0 : ok G 10 v0) (h : f_X11_terms G v0 v1 v2 Q S) : J p l e rm_X11_terms s m args below meth c b D cy 3 (zI b D cy below args s G Q) 0 0 G S 0 [(0, .ref (b + v0)), (1, .int v1), (2, .int v2)] [] := by
  unfold f_X11_terms at h
  refine jB C [(.aload_n 0, 1, 0), (.iconst 0, 1, 0)] 2 [(0, .ref (b + v0)), (1, .int v1), (2, .int v2)] [.int 0, .ref (b + v0)] (by decide +kernel) rfl rfl ?_
  refine jPutI C 5 (by decide +kernel : decode cX11_terms 2 = .ok (.putfield 165, 3)) rfl hE t_v0 kX11 0 (by decide) rfl rfl (by decide) rfl wd_1154 rfl rfl rfl ?_
  refine jTopS (fun S1 e_S1 => ?_)
  have h := h S1 e_S1
  refine jB C [(.iload_n 1, 1, 0), (.iload_n 2, 1, 0)] 7 [(0, .ref (b + v0)), (1, .int v1), (2, .int v2)] [.int v2, .int v1] (by decide +kernel) rfl rfl ?_
  refine jcS_I C 10 (rest := []) (ok_X11_isTerm h) (by decide +kernel : decode cX11_terms 7 = .ok (.invokestatic 256, 3)) rfl wd_1482 wd_1483 wd_12 wd_1484 ⟨rfl, rfl⟩ hd_X11_isTerm ⟨Nat.le_of_ble_eq_true rfl, Nat.le_of_ble_eq_true rfl⟩ rfl rfl (Nat.le_of_ble_eq_true rfl) ⟨Nat.zero_le _, Nat.zero_le _⟩ (fun r3 S2 h => ?_)
  refine jIf_ne C 13 19 (by decide +kernel : decode cX11_terms 10 = .ok (.ifCond .ne 9, 3)) rfl rfl (fun c4 => ?_) (fun c4 => ?_)
  · have h := it2 h c4
    refine jB C [(.aload_n 0, 1, 0), (.iconst 0, 1, 0)] 21 [(0, .ref (b + v0)), (1, .int v1), (2, .int v2)] [.int 0, .ref (b + v0)] (by decide +kernel) rfl rfl ?_
    refine jPutI C 24 (by decide +kernel : decode cX11_terms 21 = .ok (.putfield 171, 3)) rfl hE t_v0 kX11 9 (by decide) rfl rfl (by decide) rfl wd_1163 rfl rfl rfl ?_
    refine jTopS (fun S5 e_S5 => ?_)
    have h := h S5 e_S5
    refine jB C [(.aload_n 0, 1, 0), (.iconst 4, 1, 4), (.iload_n 1, 1, 0), (.iadd, 1, 0), (.iload_n 2, 1, 0)] 29 [(0, .ref (b + v0)), (1, .int v1), (2, .int v2)] [.int v2, .int (4 + v1), .ref (b + v0)] (by decide +kernel) rfl rfl ?_
    refine jcV_I C 32 (rest := []) (ok_X11_change t_v0 h) (by decide +kernel : decode cX11_terms 29 = .ok (.invokevirtual 242, 3)) rfl wd_1465 wd_1467 wp_117 wd_12 wd_1468 ⟨rfl, rfl⟩ hd_X11_change ⟨Nat.le_of_ble_eq_true rfl, Nat.le_of_ble_eq_true rfl⟩ t_v0 kX11 (by decide) rfl rfl rfl (Nat.le_of_ble_eq_true rfl) ⟨Nat.zero_le _, Nat.zero_le _⟩ (fun r7 S6 h => ?_)
    exact jRetI C (by decide +kernel : decode cX11_terms 32 = .ok (.ireturn, 1)) (Nat.le_refl _) (Nat.le_refl _) ⟨rfl, h⟩
  · have h := it1 h c4
    refine jB C [(.aload_n 0, 1, 0), (.iconst (-1), 1, (-1))] 15 [(0, .ref (b + v0)), (1, .int v1), (2, .int v2)] [.int (-1), .ref (b + v0)] (by decide +kernel) rfl rfl ?_
    refine jcV_I C 18 (rest := []) (ok_X11_tell t_v0 h) (by decide +kernel : decode cX11_terms 15 = .ok (.invokevirtual 174, 3)) rfl wd_1340 wd_1342 wp_99 wd_12 wd_1343 ⟨rfl, rfl⟩ hd_X11_tell ⟨Nat.le_of_ble_eq_true rfl, Nat.le_of_ble_eq_true rfl⟩ t_v0 kX11 (by decide) rfl rfl rfl (Nat.le_of_ble_eq_true rfl) ⟨Nat.zero_le _, Nat.zero_le _⟩ (fun r9 S8 h => ?_)
    exact jRetI C (by decide +kernel : decode cX11_terms 18 = .ok (.ireturn, 1)) (Nat.le_refl _) (Nat.le_refl _) ⟨rfl, h⟩
theorem ok_X11_terms {G : Gm} {v0 : Nat} {v1 : Int32} {v2 : Int32} {S : St} {Q : Int32 → St → Prop}  (t_v0 : ok G 10 v0) (h : f_X11_terms G v0 v1 v2 Q S) : MT yX11_terms cX11_terms 3 (some .int) rm_X11_terms 0 0 (fun b => [.ref (b + v0), .int v1, .int v2]) G S (QI (fun r G1 S1 => G1 = G ∧ Q r S1)) := MT.ofJ (by decide +kernel) (fun b => [(0, .ref (b + v0)), (1, .int v1), (2, .int v2)]) (fun b => rfl) (fun b => Nat.le_of_ble_eq_true rfl) (fun l b D cy p e s m below meth c C hE hn => j_X11_terms C hE t_v0 h)
theorem hd_X11_terms : yX11_terms.cls ≠ "java/lang/invoke/MethodHandle" ∧ yX11_terms.cls ≠ "java/lang/invoke/VarHandle" ∧ (parseMethodDescriptor yX11_terms.desc).map (fun d => d.parameters.length) = some 2 := by decide +kernel
abbrev rm_X11_undo : Room := { frames := 1, cells := 0, slots := 0, locals := 22 }
set_option maxHeartbeats 4000000 in
set_option maxRecDepth 100000 in
theorem j_X11_undo {p : Program} {l : Launch} {e : Env} {s : State} {m : MethodId} {args : Array Value} {below : List Frame} {meth : Method} {c : Code} {b : Nat} {D : va_G} {cy : Nat → ClassId} {G : Gm} {v0 : Nat} {S : St} {Q : Int32 → St → Prop} (C : CX p s m args meth c b D cy cX11_undo RX11 1 (some .int)) (hE : s.heap.size + 0 ≤ b + G.2.2) (t_v0 : ok G 10 v0) (h : f_X11_undo G v0 Q S) : J p l e rm_X11_undo s m args below meth c b D cy 1 (zI b D cy below args s G Q) 0 0 G S 0 [(0, .ref (b + v0))] [] := by
  unfold f_X11_undo at h
  refine jB C [(.aload_n 0, 1, 0), (.iconst 0, 1, 0)] 2 [(0, .ref (b + v0))] [.int 0, .ref (b + v0)] (by decide +kernel) rfl rfl ?_
  refine jPutI C 5 (by decide +kernel : decode cX11_undo 2 = .ok (.putfield 165, 3)) rfl hE t_v0 kX11 0 (by decide) rfl rfl (by decide) rfl wd_1154 rfl rfl rfl ?_
  refine jTopS (fun S1 e_S1 => ?_)
  have h := h S1 e_S1
  refine jB C [(.aload_n 0, 1, 0)] 6 [(0, .ref (b + v0))] [.ref (b + v0)] (by decide +kernel) rfl rfl ?_
  refine jGetI C 9 (by decide +kernel : decode cX11_undo 6 = .ok (.getfield 171, 3)) rfl t_v0 kX11 9 (by decide) rfl rfl (by decide) wd_1163 ?_
  refine jIf_ne C 12 19 (by decide +kernel : decode cX11_undo 9 = .ok (.ifCond .ne 10, 3)) rfl rfl (fun c2 => ?_) (fun c2 => ?_)
  · have h := it2 h c2
    refine jB C [(.aload_n 0, 1, 0), (.dup, 1, 0)] 21 [(0, .ref (b + v0))] [.ref (b + v0), .ref (b + v0)] (by decide +kernel) rfl rfl ?_
    refine jGetI C 24 (by decide +kernel : decode cX11_undo 21 = .ok (.getfield 171, 3)) rfl t_v0 kX11 9 (by decide) rfl rfl (by decide) wd_1163 ?_
    refine jB C [(.iconst 1, 1, 1), (.isub, 1, 0)] 26 [(0, .ref (b + v0))] [.int ((S1.1 v0 9) - 1), .ref (b + v0)] (by decide +kernel) rfl rfl ?_
    refine jPutI C 29 (by decide +kernel : decode cX11_undo 26 = .ok (.putfield 171, 3)) rfl hE t_v0 kX11 9 (by decide) rfl rfl (by decide) rfl wd_1163 rfl rfl rfl ?_
    refine jTopS (fun S3 e_S3 => ?_)
    have h := h S3 e_S3
    refine jB C [(.aload_n 0, 1, 0), (.aload_n 0, 1, 0)] 31 [(0, .ref (b + v0))] [.ref (b + v0), .ref (b + v0)] (by decide +kernel) rfl rfl ?_
    refine jGetI C 34 (by decide +kernel : decode cX11_undo 31 = .ok (.getfield 171, 3)) rfl t_v0 kX11 9 (by decide) rfl rfl (by decide) wd_1163 ?_
    refine jcV_V C 37 (rest := []) (ok_X11_putBack t_v0 h) (by decide +kernel : decode cX11_undo 34 = .ok (.invokevirtual 182, 3)) rfl wd_1344 wd_1346 wp_100 wd_12 wd_1347 ⟨rfl, rfl⟩ hd_X11_putBack ⟨Nat.le_of_ble_eq_true rfl, Nat.le_of_ble_eq_true rfl⟩ t_v0 kX11 (by decide) rfl rfl rfl (Nat.le_of_ble_eq_true rfl) ⟨Nat.zero_le _, Nat.zero_le _⟩ (fun S4 h => ?_)
    refine jB C [(.aload_n 0, 1, 0), (.aload_n 0, 1, 0)] 39 [(0, .ref (b + v0))] [.ref (b + v0), .ref (b + v0)] (by decide +kernel) rfl rfl ?_
    obtain ⟨a5, e_a5, h⟩ := h
    refine jGetR C 42 (by decide +kernel : decode cX11_undo 39 = .ok (.getfield 29, 3)) rfl t_v0 kX11 8 (by decide) rfl rfl (by decide) wd_1162 e_a5 rfl (fun t_a5 => ?_)
    refine jB C [(.aload_n 0, 1, 0)] 43 [(0, .ref (b + v0))] [.ref (b + v0), .ref (b + a5), .ref (b + v0)] (by decide +kernel) rfl rfl ?_
    refine jGetI C 46 (by decide +kernel : decode cX11_undo 43 = .ok (.getfield 171, 3)) rfl t_v0 kX11 9 (by decide) rfl rfl (by decide) wd_1163 ?_
    obtain ⟨y6, h⟩ := h
    refine jIald C 47 (by decide +kernel : decode cX11_undo 46 = .ok (.iaload, 1)) rfl t_a5 y6 ?_
    refine jcV_I C 50 (rest := []) (ok_X11_tell t_v0 h) (by decide +kernel : decode cX11_undo 47 = .ok (.invokevirtual 174, 3)) rfl wd_1340 wd_1342 wp_99 wd_12 wd_1343 ⟨rfl, rfl⟩ hd_X11_tell ⟨Nat.le_of_ble_eq_true rfl, Nat.le_of_ble_eq_true rfl⟩ t_v0 kX11 (by decide) rfl rfl rfl (Nat.le_of_ble_eq_true rfl) ⟨Nat.zero_le _, Nat.zero_le _⟩ (fun r8 S7 h => ?_)
    exact jRetI C (by decide +kernel : decode cX11_undo 50 = .ok (.ireturn, 1)) (Nat.le_refl _) (Nat.le_refl _) ⟨rfl, h⟩
  · have h := it1 h c2
    refine jB C [(.aload_n 0, 1, 0), (.bipush (-3), 2, (-3))] 15 [(0, .ref (b + v0))] [.int (-3), .ref (b + v0)] (by decide +kernel) rfl rfl ?_
    refine jcV_I C 18 (rest := []) (ok_X11_tell t_v0 h) (by decide +kernel : decode cX11_undo 15 = .ok (.invokevirtual 174, 3)) rfl wd_1340 wd_1342 wp_99 wd_12 wd_1343 ⟨rfl, rfl⟩ hd_X11_tell ⟨Nat.le_of_ble_eq_true rfl, Nat.le_of_ble_eq_true rfl⟩ t_v0 kX11 (by decide) rfl rfl rfl (Nat.le_of_ble_eq_true rfl) ⟨Nat.zero_le _, Nat.zero_le _⟩ (fun r10 S9 h => ?_)
    exact jRetI C (by decide +kernel : decode cX11_undo 18 = .ok (.ireturn, 1)) (Nat.le_refl _) (Nat.le_refl _) ⟨rfl, h⟩
theorem ok_X11_undo {G : Gm} {v0 : Nat} {S : St} {Q : Int32 → St → Prop}  (t_v0 : ok G 10 v0) (h : f_X11_undo G v0 Q S) : MT yX11_undo cX11_undo 1 (some .int) rm_X11_undo 0 0 (fun b => [.ref (b + v0)]) G S (QI (fun r G1 S1 => G1 = G ∧ Q r S1)) := MT.ofJ (by decide +kernel) (fun b => [(0, .ref (b + v0))]) (fun b => rfl) (fun b => Nat.le_of_ble_eq_true rfl) (fun l b D cy p e s m below meth c C hE hn => j_X11_undo C hE t_v0 h)
theorem hd_X11_undo : yX11_undo.cls ≠ "java/lang/invoke/MethodHandle" ∧ yX11_undo.cls ≠ "java/lang/invoke/VarHandle" ∧ (parseMethodDescriptor yX11_undo.desc).map (fun d => d.parameters.length) = some 0 := by decide +kernel
abbrev rm_X11_wanted : Room := { frames := 2, cells := 0, slots := 0, locals := 46 }
set_option maxHeartbeats 4000000 in
set_option maxRecDepth 100000 in
theorem j_X11_wanted {p : Program} {l : Launch} {e : Env} {s : State} {m : MethodId} {args : Array Value} {below : List Frame} {meth : Method} {c : Code} {b : Nat} {D : va_G} {cy : Nat → ClassId} {G : Gm} {v0 : Nat} {v1 : Int32} {v2 : Int32} {S : St} {Q : Int32 → St → Prop} (C : CX p s m args meth c b D cy cX11_wanted RX11 3 (some .int)) (hE : s.heap.size + 0 ≤ b + G.2.2) (t_v0 : ok G 10 v0) (h : f_X11_wanted G v0 v1 v2 Q S) : J p l e rm_X11_wanted s m args below meth c b D cy 3 (zI b D cy below args s G Q) 0 0 G S 0 [(0, .ref (b + v0)), (1, .int v1), (2, .int v2)] [] := by
  unfold f_X11_wanted at h
  refine jB C [(.aload_n 0, 1, 0), (.iconst 0, 1, 0)] 2 [(0, .ref (b + v0)), (1, .int v1), (2, .int v2)] [.int 0, .ref (b + v0)] (by decide +kernel) rfl rfl ?_
  refine jPutI C 5 (by decide +kernel : decode cX11_wanted 2 = .ok (.putfield 165, 3)) rfl hE t_v0 kX11 0 (by decide) rfl rfl (by decide) rfl wd_1154 rfl rfl rfl ?_
  refine jTopS (fun S1 e_S1 => ?_)
  have h := h S1 e_S1
  refine jB C [(.iload_n 2, 1, 0), (.i2l, 1, 0), (.lconst 0, 1, 0)] 8 [(0, .ref (b + v0)), (1, .int v1), (2, .int v2)] [.long 0, .long v2.toInt64] (by decide +kernel) rfl rfl ?_
  refine jLdc2 C 11 (by decide +kernel : decode cX11_wanted 8 = .ok (.ldc2_w 192, 3)) rfl wd_1380 ?_
  refine jcS_I C 14 (rest := []) (ok_X11_in h) (by decide +kernel : decode cX11_wanted 11 = .ok (.invokestatic 185, 3)) rfl wd_1352 wd_1353 wd_12 wd_1354 ⟨rfl, rfl⟩ hd_X11_in ⟨Nat.le_of_ble_eq_true rfl, Nat.le_of_ble_eq_true rfl⟩ rfl rfl (Nat.le_of_ble_eq_true rfl) ⟨Nat.zero_le _, Nat.zero_le _⟩ (fun r3 S2 h => ?_)
  refine jIf_ne C 17 23 (by decide +kernel : decode cX11_wanted 14 = .ok (.ifCond .ne 9, 3)) rfl rfl (fun c4 => ?_) (fun c4 => ?_)
  · have h := it2 h c4
    refine jB C [(.aload_n 0, 1, 0), (.iload_n 1, 1, 0)] 25 [(0, .ref (b + v0)), (1, .int v1), (2, .int v2)] [.int v1, .ref (b + v0)] (by decide +kernel) rfl rfl ?_
    refine jcV_I C 28 (rest := []) (ok_X11_isPerson t_v0 h) (by decide +kernel : decode cX11_wanted 25 = .ok (.invokevirtual 209, 3)) rfl wd_1376 wd_1378 wp_103 wd_12 wd_1379 ⟨rfl, rfl⟩ hd_X11_isPerson ⟨Nat.le_of_ble_eq_true rfl, Nat.le_of_ble_eq_true rfl⟩ t_v0 kX11 (by decide) rfl rfl rfl (Nat.le_of_ble_eq_true rfl) ⟨Nat.zero_le _, Nat.zero_le _⟩ (fun r6 S5 h => ?_)
    refine jIf_eq C 31 43 (by decide +kernel : decode cX11_wanted 28 = .ok (.ifCond .eq 15, 3)) rfl rfl (fun c7 => ?_) (fun c7 => ?_)
    · have h := it1 h c7
      refine jB C [(.aload_n 0, 1, 0), (.bipush (-2), 2, (-2))] 46 [(0, .ref (b + v0)), (1, .int v1), (2, .int v2)] [.int (-2), .ref (b + v0)] (by decide +kernel) rfl rfl ?_
      refine jcV_I C 49 (rest := []) (ok_X11_tell t_v0 h) (by decide +kernel : decode cX11_wanted 46 = .ok (.invokevirtual 174, 3)) rfl wd_1340 wd_1342 wp_99 wd_12 wd_1343 ⟨rfl, rfl⟩ hd_X11_tell ⟨Nat.le_of_ble_eq_true rfl, Nat.le_of_ble_eq_true rfl⟩ t_v0 kX11 (by decide) rfl rfl rfl (Nat.le_of_ble_eq_true rfl) ⟨Nat.zero_le _, Nat.zero_le _⟩ (fun r9 S8 h => ?_)
      exact jRetI C (by decide +kernel : decode cX11_wanted 49 = .ok (.ireturn, 1)) (Nat.le_refl _) (Nat.le_refl _) ⟨rfl, h⟩
    · have h := it2 h c7
      refine jB C [(.aload_n 0, 1, 0), (.bipush 62, 2, 62), (.iload_n 1, 1, 0), (.iadd, 1, 0), (.iload_n 2, 1, 0)] 37 [(0, .ref (b + v0)), (1, .int v1), (2, .int v2)] [.int v2, .int (62 + v1), .ref (b + v0)] (by decide +kernel) rfl rfl ?_
      refine jcV_I C 40 (rest := []) (ok_X11_change t_v0 h) (by decide +kernel : decode cX11_wanted 37 = .ok (.invokevirtual 242, 3)) rfl wd_1465 wd_1467 wp_117 wd_12 wd_1468 ⟨rfl, rfl⟩ hd_X11_change ⟨Nat.le_of_ble_eq_true rfl, Nat.le_of_ble_eq_true rfl⟩ t_v0 kX11 (by decide) rfl rfl rfl (Nat.le_of_ble_eq_true rfl) ⟨Nat.zero_le _, Nat.zero_le _⟩ (fun r11 S10 h => ?_)
      refine jGoto C 49 (by decide +kernel : decode cX11_wanted 40 = .ok (.goto 9, 3)) rfl ?_
      exact jRetI C (by decide +kernel : decode cX11_wanted 49 = .ok (.ireturn, 1)) (Nat.le_refl _) (Nat.le_refl _) ⟨rfl, h⟩
  · have h := it1 h c4
    refine jB C [(.aload_n 0, 1, 0), (.iconst (-1), 1, (-1))] 19 [(0, .ref (b + v0)), (1, .int v1), (2, .int v2)] [.int (-1), .ref (b + v0)] (by decide +kernel) rfl rfl ?_
    refine jcV_I C 22 (rest := []) (ok_X11_tell t_v0 h) (by decide +kernel : decode cX11_wanted 19 = .ok (.invokevirtual 174, 3)) rfl wd_1340 wd_1342 wp_99 wd_12 wd_1343 ⟨rfl, rfl⟩ hd_X11_tell ⟨Nat.le_of_ble_eq_true rfl, Nat.le_of_ble_eq_true rfl⟩ t_v0 kX11 (by decide) rfl rfl rfl (Nat.le_of_ble_eq_true rfl) ⟨Nat.zero_le _, Nat.zero_le _⟩ (fun r13 S12 h => ?_)
    exact jRetI C (by decide +kernel : decode cX11_wanted 22 = .ok (.ireturn, 1)) (Nat.le_refl _) (Nat.le_refl _) ⟨rfl, h⟩
theorem ok_X11_wanted {G : Gm} {v0 : Nat} {v1 : Int32} {v2 : Int32} {S : St} {Q : Int32 → St → Prop}  (t_v0 : ok G 10 v0) (h : f_X11_wanted G v0 v1 v2 Q S) : MT yX11_wanted cX11_wanted 3 (some .int) rm_X11_wanted 0 0 (fun b => [.ref (b + v0), .int v1, .int v2]) G S (QI (fun r G1 S1 => G1 = G ∧ Q r S1)) := MT.ofJ (by decide +kernel) (fun b => [(0, .ref (b + v0)), (1, .int v1), (2, .int v2)]) (fun b => rfl) (fun b => Nat.le_of_ble_eq_true rfl) (fun l b D cy p e s m below meth c C hE hn => j_X11_wanted C hE t_v0 h)
theorem hd_X11_wanted : yX11_wanted.cls ≠ "java/lang/invoke/MethodHandle" ∧ yX11_wanted.cls ≠ "java/lang/invoke/VarHandle" ∧ (parseMethodDescriptor yX11_wanted.desc).map (fun d => d.parameters.length) = some 2 := by decide +kernel
abbrev rm_X11_weaker : Room := { frames := 1, cells := 0, slots := 0, locals := 25 }
set_option maxHeartbeats 4000000 in
set_option maxRecDepth 100000 in
theorem j_X11_weaker_85_n {p : Program} {l : Launch} {e : Env} {s : State} {m : MethodId} {args : Array Value} {below : List Frame} {meth : Method} {c : Code} {b : Nat} {D : va_G} {cy : Nat → ClassId} {G : Gm} {k74 : Int32 → St → Prop} {v0 : Nat} {v1 : Int32} {v2 : Int32} {v3 : Int32} {v4 : Int32} {Q : Int64 → St → Prop} (C : CX p s m args meth c b D cy cX11_weaker RX11 8 (some .long)) (hE : s.heap.size + 0 ≤ b + G.2.2) (t_v0 : ok G 10 v0) (hk74 : ∀ v4' S, k74 v4' S → J p l e rm_X11_weaker s m args below meth c b D cy 8 (zL b D cy below args s G Q) 0 0 G S 74 [(0, .ref (b + v0)), (1, .int v1), (2, .int v2), (3, .int v3), (4, .int (v4'))] []) : ∀ k (v5 : Int32) S, f_X11_weaker_85_n G k74 v0 v1 v2 v3 v4 Q k v5 S → J p l e rm_X11_weaker s m args below meth c b D cy 8 (zL b D cy below args s G Q) 0 0 G S 85 [(0, .ref (b + v0)), (1, .int v1), (2, .int v2), (3, .int v3), (4, .int v4), (5, .int v5)] [] := by
  intro k
  induction k with
  | zero => intro v5 S h; exact h.elim
  | succ k ih =>
    intro v5 S h
    unfold f_X11_weaker_85_n at h
    refine jB C [(.iload 5, 2, 0)] 87 [(0, .ref (b + v0)), (1, .int v1), (2, .int v2), (3, .int v3), (4, .int v4), (5, .int v5)] [.int v5] (by decide +kernel) rfl rfl ?_
    refine jIf_lt C 90 145 (by decide +kernel : decode cX11_weaker 87 = .ok (.ifCond .lt 58, 3)) rfl rfl (fun c1 => ?_) (fun c1 => ?_)
    · have h := it1 h c1
      refine jB C [(.iinc 4 1, 3, 1)] 148 [(4, .int (v4 + 1)), (0, .ref (b + v0)), (1, .int v1), (2, .int v2), (3, .int v3), (5, .int v5)] [] (by decide +kernel) rfl rfl ?_
      refine jGoto C 74 (by decide +kernel : decode cX11_weaker 148 = .ok (.goto (-74), 3)) rfl ?_
      refine jSub [1, 2, 3, 4, 0] rfl ?_
      exact hk74 (v4 + 1) S h
    · have h := it2 h c1
      refine jB C [(.aload_n 0, 1, 0)] 91 [(0, .ref (b + v0)), (1, .int v1), (2, .int v2), (3, .int v3), (4, .int v4), (5, .int v5)] [.ref (b + v0)] (by decide +kernel) rfl rfl ?_
      obtain ⟨a2, e_a2, h⟩ := h
      refine jGetR C 94 (by decide +kernel : decode cX11_weaker 91 = .ok (.getfield 135, 3)) rfl t_v0 kX11 50 (by decide) rfl rfl (by decide) wd_1204 e_a2 rfl (fun t_a2 => ?_)
      refine jB C [(.iload 5, 2, 0)] 96 [(0, .ref (b + v0)), (1, .int v1), (2, .int v2), (3, .int v3), (4, .int v4), (5, .int v5)] [.int v5, .ref (b + a2)] (by decide +kernel) rfl rfl ?_
      obtain ⟨y3, h⟩ := h
      refine jLald C 97 (by decide +kernel : decode cX11_weaker 96 = .ok (.laload, 1)) rfl t_a2 y3 ?_
      refine jTopL (fun x4 e_x4 => ?_)
      have h := h x4 e_x4
      refine jB C [(.lstore 6, 2, 0), (.aload_n 0, 1, 0)] 100 [(6, .long x4), (0, .ref (b + v0)), (1, .int v1), (2, .int v2), (3, .int v3), (4, .int v4), (5, .int v5)] [.ref (b + v0)] (by decide +kernel) rfl rfl ?_
      obtain ⟨a5, e_a5, h⟩ := h
      refine jGetR C 103 (by decide +kernel : decode cX11_weaker 100 = .ok (.getfield 135, 3)) rfl t_v0 kX11 50 (by decide) rfl rfl (by decide) wd_1204 e_a5 rfl (fun t_a5 => ?_)
      refine jB C [(.iload 5, 2, 0), (.lload 6, 2, 0), (.bipush 10, 2, 10), (.iload_n 3, 1, 0), (.isub, 1, 0), (.i2l, 1, 0), (.lmul, 1, 0)] 113 [(6, .long x4), (0, .ref (b + v0)), (1, .int v1), (2, .int v2), (3, .int v3), (4, .int v4), (5, .int v5)] [.long (x4 * ((10 - v3).toInt64)), .int v5, .ref (b + a5)] (by decide +kernel) rfl rfl ?_
      refine jLdc2 C 116 (by decide +kernel : decode cX11_weaker 113 = .ok (.ldc2_w 252, 3)) rfl wd_1486 ?_
      refine jLdiv C 117 (by decide +kernel : decode cX11_weaker 116 = .ok (.ldiv, 1)) rfl (by decide) ?_
      obtain ⟨y6, h⟩ := h
      refine jLast C 118 (by decide +kernel : decode cX11_weaker 117 = .ok (.lastore, 1)) rfl hE t_a5 y6 ?_
      refine jTopS (fun S7 e_S7 => ?_)
      have h := h S7 e_S7
      refine jB C [(.aload_n 0, 1, 0)] 119 [(6, .long x4), (0, .ref (b + v0)), (1, .int v1), (2, .int v2), (3, .int v3), (4, .int v4), (5, .int v5)] [.ref (b + v0)] (by decide +kernel) rfl rfl ?_
      obtain ⟨a8, e_a8, h⟩ := h
      refine jGetR C 122 (by decide +kernel : decode cX11_weaker 119 = .ok (.getfield 135, 3)) rfl t_v0 kX11 50 (by decide) rfl rfl (by decide) wd_1204 e_a8 rfl (fun t_a8 => ?_)
      refine jB C [(.iload 5, 2, 0), (.iconst 1, 1, 1), (.iadd, 1, 0), (.dup2, 1, 0)] 127 [(6, .long x4), (0, .ref (b + v0)), (1, .int v1), (2, .int v2), (3, .int v3), (4, .int v4), (5, .int v5)] [.int (v5 + 1), .ref (b + a8), .int (v5 + 1), .ref (b + a8)] (by decide +kernel) rfl rfl ?_
      obtain ⟨y9, h⟩ := h
      refine jLald C 128 (by decide +kernel : decode cX11_weaker 127 = .ok (.laload, 1)) rfl t_a8 y9 ?_
      refine jB C [(.lload 6, 2, 0), (.iload_n 3, 1, 0), (.i2l, 1, 0), (.lmul, 1, 0)] 133 [(6, .long x4), (0, .ref (b + v0)), (1, .int v1), (2, .int v2), (3, .int v3), (4, .int v4), (5, .int v5)] [.long (x4 * v3.toInt64), .long (S7.2.1 a8 (v5 + 1).toNatClampNeg), .int (v5 + 1), .ref (b + a8)] (by decide +kernel) rfl rfl ?_
      refine jLdc2 C 136 (by decide +kernel : decode cX11_weaker 133 = .ok (.ldc2_w 252, 3)) rfl wd_1486 ?_
      refine jLdiv C 137 (by decide +kernel : decode cX11_weaker 136 = .ok (.ldiv, 1)) rfl (by decide) ?_
      refine jB C [(.ladd, 1, 0)] 138 [(6, .long x4), (0, .ref (b + v0)), (1, .int v1), (2, .int v2), (3, .int v3), (4, .int v4), (5, .int v5)] [.long ((S7.2.1 a8 (v5 + 1).toNatClampNeg) + ((x4 * v3.toInt64) / 10)), .int (v5 + 1), .ref (b + a8)] (by decide +kernel) rfl rfl ?_
      obtain ⟨y10, h⟩ := h
      refine jLast C 139 (by decide +kernel : decode cX11_weaker 138 = .ok (.lastore, 1)) rfl hE t_a8 y10 ?_
      refine jTopS (fun S11 e_S11 => ?_)
      have h := h S11 e_S11
      refine jB C [(.iinc 5 (-1), 3, (-1))] 142 [(5, .int (v5 + (-1))), (6, .long x4), (0, .ref (b + v0)), (1, .int v1), (2, .int v2), (3, .int v3), (4, .int v4)] [] (by decide +kernel) rfl rfl ?_
      refine jGoto C 85 (by decide +kernel : decode cX11_weaker 142 = .ok (.goto (-57), 3)) rfl ?_
      refine jSub [2, 3, 4, 5, 6, 0] rfl ?_
      exact ih (v5 + (-1)) S11 h
theorem j_X11_weaker_85 {p : Program} {l : Launch} {e : Env} {s : State} {m : MethodId} {args : Array Value} {below : List Frame} {meth : Method} {c : Code} {b : Nat} {D : va_G} {cy : Nat → ClassId} {G : Gm} {k74 : Int32 → St → Prop} {v0 : Nat} {v1 : Int32} {v2 : Int32} {v3 : Int32} {v4 : Int32} {v5 : Int32} {S : St} {Q : Int64 → St → Prop} (C : CX p s m args meth c b D cy cX11_weaker RX11 8 (some .long)) (hE : s.heap.size + 0 ≤ b + G.2.2) (t_v0 : ok G 10 v0) (hk74 : ∀ v4' S, k74 v4' S → J p l e rm_X11_weaker s m args below meth c b D cy 8 (zL b D cy below args s G Q) 0 0 G S 74 [(0, .ref (b + v0)), (1, .int v1), (2, .int v2), (3, .int v3), (4, .int (v4'))] []) (h : f_X11_weaker_85 G k74 v0 v1 v2 v3 v4 Q v5 S) : J p l e rm_X11_weaker s m args below meth c b D cy 8 (zL b D cy below args s G Q) 0 0 G S 85 [(0, .ref (b + v0)), (1, .int v1), (2, .int v2), (3, .int v3), (4, .int v4), (5, .int v5)] [] := by
  obtain ⟨k, h⟩ := h
  exact j_X11_weaker_85_n C hE t_v0 hk74 k v5 S h
set_option maxHeartbeats 4000000 in
set_option maxRecDepth 100000 in
theorem j_X11_weaker_74_n {p : Program} {l : Launch} {e : Env} {s : State} {m : MethodId} {args : Array Value} {below : List Frame} {meth : Method} {c : Code} {b : Nat} {D : va_G} {cy : Nat → ClassId} {G : Gm} {v0 : Nat} {v1 : Int32} {v2 : Int32} {v3 : Int32} {Q : Int64 → St → Prop} (C : CX p s m args meth c b D cy cX11_weaker RX11 8 (some .long)) (hE : s.heap.size + 0 ≤ b + G.2.2) (t_v0 : ok G 10 v0) : ∀ k (v4 : Int32) S, f_X11_weaker_74_n G v0 v1 v2 v3 Q k v4 S → J p l e rm_X11_weaker s m args below meth c b D cy 8 (zL b D cy below args s G Q) 0 0 G S 74 [(0, .ref (b + v0)), (1, .int v1), (2, .int v2), (3, .int v3), (4, .int v4)] [] := by
  intro k
  induction k with
  | zero => intro v4 S h; exact h.elim
  | succ k ih =>
    intro v4 S h
    unfold f_X11_weaker_74_n at h
    refine jB C [(.iload 4, 2, 0), (.iload_n 2, 1, 0)] 77 [(0, .ref (b + v0)), (1, .int v1), (2, .int v2), (3, .int v3), (4, .int v4)] [.int v2, .int v4] (by decide +kernel) rfl rfl ?_
    refine jIcmp_ge C 80 151 (by decide +kernel : decode cX11_weaker 77 = .ok (.if_icmp .ge 74, 3)) rfl rfl (fun c1 => ?_) (fun c1 => ?_)
    · have h := it1 h c1
      refine jB C [(.aload_n 0, 1, 0)] 152 [(0, .ref (b + v0)), (1, .int v1), (2, .int v2), (3, .int v3), (4, .int v4)] [.ref (b + v0)] (by decide +kernel) rfl rfl ?_
      obtain ⟨a2, e_a2, h⟩ := h
      refine jGetR C 155 (by decide +kernel : decode cX11_weaker 152 = .ok (.getfield 135, 3)) rfl t_v0 kX11 50 (by decide) rfl rfl (by decide) wd_1204 e_a2 rfl (fun t_a2 => ?_)
      refine jB C [(.iload_n 1, 1, 0)] 156 [(0, .ref (b + v0)), (1, .int v1), (2, .int v2), (3, .int v3), (4, .int v4)] [.int v1, .ref (b + a2)] (by decide +kernel) rfl rfl ?_
      obtain ⟨y3, h⟩ := h
      refine jLald C 157 (by decide +kernel : decode cX11_weaker 156 = .ok (.laload, 1)) rfl t_a2 y3 ?_
      exact jRetL C (by decide +kernel : decode cX11_weaker 157 = .ok (.lreturn, 1)) (Nat.le_refl _) (Nat.le_refl _) ⟨rfl, h⟩
    · have h := it2 h c1
      refine jB C [(.iload_n 1, 1, 0), (.iconst 1, 1, 1), (.isub, 1, 0)] 83 [(0, .ref (b + v0)), (1, .int v1), (2, .int v2), (3, .int v3), (4, .int v4)] [.int (v1 - 1)] (by decide +kernel) rfl rfl ?_
      refine jTopI (fun x4 e_x4 => ?_)
      have h := h x4 e_x4
      refine jB C [(.istore 5, 2, 0)] 85 [(5, .int x4), (0, .ref (b + v0)), (1, .int v1), (2, .int v2), (3, .int v3), (4, .int v4)] [] (by decide +kernel) rfl rfl ?_
      refine jSub [1, 2, 3, 4, 5, 0] rfl ?_
      exact j_X11_weaker_85 C hE t_v0 ih h
theorem j_X11_weaker_74 {p : Program} {l : Launch} {e : Env} {s : State} {m : MethodId} {args : Array Value} {below : List Frame} {meth : Method} {c : Code} {b : Nat} {D : va_G} {cy : Nat → ClassId} {G : Gm} {v0 : Nat} {v1 : Int32} {v2 : Int32} {v3 : Int32} {v4 : Int32} {S : St} {Q : Int64 → St → Prop} (C : CX p s m args meth c b D cy cX11_weaker RX11 8 (some .long)) (hE : s.heap.size + 0 ≤ b + G.2.2) (t_v0 : ok G 10 v0) (h : f_X11_weaker_74 G v0 v1 v2 v3 Q v4 S) : J p l e rm_X11_weaker s m args below meth c b D cy 8 (zL b D cy below args s G Q) 0 0 G S 74 [(0, .ref (b + v0)), (1, .int v1), (2, .int v2), (3, .int v3), (4, .int v4)] [] := by
  obtain ⟨k, h⟩ := h
  exact j_X11_weaker_74_n C hE t_v0 k v4 S h
set_option maxHeartbeats 4000000 in
set_option maxRecDepth 100000 in
theorem j_X11_weaker_57 {p : Program} {l : Launch} {e : Env} {s : State} {m : MethodId} {args : Array Value} {below : List Frame} {meth : Method} {c : Code} {b : Nat} {D : va_G} {cy : Nat → ClassId} {G : Gm} {k35 : Int32 → St → Prop} {v0 : Nat} {v1 : Int32} {v2 : Int32} {v3 : Int32} {u0 : Int64} {u1 : Int32} {u2 : Nat} {S : St} {Q : Int64 → St → Prop} (C : CX p s m args meth c b D cy cX11_weaker RX11 8 (some .long)) (hE : s.heap.size + 0 ≤ b + G.2.2) (t_v0 : ok G 10 v0) (t_u2 : ok G 12 u2) (hk35 : ∀ v3' S, k35 v3' S → J p l e rm_X11_weaker s m args below meth c b D cy 8 (zL b D cy below args s G Q) 0 0 G S 35 [(0, .ref (b + v0)), (1, .int v1), (2, .int v2), (3, .int (v3'))] []) (h : f_X11_weaker_57 G k35 v0 v1 v2 v3 u0 u1 u2 Q S) : J p l e rm_X11_weaker s m args below meth c b D cy 8 (zL b D cy below args s G Q) 0 0 G S 57 [(0, .ref (b + v0)), (1, .int v1), (2, .int v2), (3, .int v3)] [.long u0, .int u1, .ref (b + u2)] := by
  unfold f_X11_weaker_57 at h
  obtain ⟨y1, h⟩ := h
  refine jLast C 58 (by decide +kernel : decode cX11_weaker 57 = .ok (.lastore, 1)) rfl hE t_u2 y1 ?_
  refine jTopS (fun S2 e_S2 => ?_)
  have h := h S2 e_S2
  refine jB C [(.iinc 3 1, 3, 1)] 61 [(3, .int (v3 + 1)), (0, .ref (b + v0)), (1, .int v1), (2, .int v2)] [] (by decide +kernel) rfl rfl ?_
  refine jGoto C 35 (by decide +kernel : decode cX11_weaker 61 = .ok (.goto (-26), 3)) rfl ?_
  refine jSub [1, 2, 3, 0] rfl ?_
  exact hk35 (v3 + 1) S2 h
set_option maxHeartbeats 4000000 in
set_option maxRecDepth 100000 in
theorem j_X11_weaker_35_n {p : Program} {l : Launch} {e : Env} {s : State} {m : MethodId} {args : Array Value} {below : List Frame} {meth : Method} {c : Code} {b : Nat} {D : va_G} {cy : Nat → ClassId} {G : Gm} {v0 : Nat} {v1 : Int32} {v2 : Int32} {Q : Int64 → St → Prop} (C : CX p s m args meth c b D cy cX11_weaker RX11 8 (some .long)) (hE : s.heap.size + 0 ≤ b + G.2.2) (t_v0 : ok G 10 v0) : ∀ k (v3 : Int32) S, f_X11_weaker_35_n G v0 v1 v2 Q k v3 S → J p l e rm_X11_weaker s m args below meth c b D cy 8 (zL b D cy below args s G Q) 0 0 G S 35 [(0, .ref (b + v0)), (1, .int v1), (2, .int v2), (3, .int v3)] [] := by
  intro k
  induction k with
  | zero => intro v3 S h; exact h.elim
  | succ k ih =>
    intro v3 S h
    unfold f_X11_weaker_35_n at h
    refine jB C [(.iload_n 3, 1, 0), (.bipush 21, 2, 21)] 38 [(0, .ref (b + v0)), (1, .int v1), (2, .int v2), (3, .int v3)] [.int 21, .int v3] (by decide +kernel) rfl rfl ?_
    refine jIcmp_ge C 41 64 (by decide +kernel : decode cX11_weaker 38 = .ok (.if_icmp .ge 26, 3)) rfl rfl (fun c1 => ?_) (fun c1 => ?_)
    · have h := it1 h c1
      refine jB C [(.aload_n 0, 1, 0)] 65 [(0, .ref (b + v0)), (1, .int v1), (2, .int v2), (3, .int v3)] [.ref (b + v0)] (by decide +kernel) rfl rfl ?_
      obtain ⟨a2, e_a2, h⟩ := h
      refine jGetR C 68 (by decide +kernel : decode cX11_weaker 65 = .ok (.getfield 16, 3)) rfl t_v0 kX11 4 (by decide) rfl rfl (by decide) wd_1158 e_a2 rfl (fun t_a2 => ?_)
      refine jB C [(.iconst 5, 1, 5)] 69 [(0, .ref (b + v0)), (1, .int v1), (2, .int v2), (3, .int v3)] [.int 5, .ref (b + a2)] (by decide +kernel) rfl rfl ?_
      obtain ⟨y3, h⟩ := h
      refine jIald C 70 (by decide +kernel : decode cX11_weaker 69 = .ok (.iaload, 1)) rfl t_a2 y3 ?_
      refine jTopI (fun x4 e_x4 => ?_)
      have h := h x4 e_x4
      refine jB C [(.istore_n 3, 1, 0), (.iconst 0, 1, 0), (.istore 4, 2, 0)] 74 [(4, .int 0), (3, .int x4), (0, .ref (b + v0)), (1, .int v1), (2, .int v2)] [] (by decide +kernel) rfl rfl ?_
      refine jSub [2, 3, 4, 1, 0] rfl ?_
      exact j_X11_weaker_74 C hE t_v0 h
    · have h := it2 h c1
      refine jB C [(.aload_n 0, 1, 0)] 42 [(0, .ref (b + v0)), (1, .int v1), (2, .int v2), (3, .int v3)] [.ref (b + v0)] (by decide +kernel) rfl rfl ?_
      obtain ⟨a5, e_a5, h⟩ := h
      refine jGetR C 45 (by decide +kernel : decode cX11_weaker 42 = .ok (.getfield 135, 3)) rfl t_v0 kX11 50 (by decide) rfl rfl (by decide) wd_1204 e_a5 rfl (fun t_a5 => ?_)
      refine jB C [(.iload_n 3, 1, 0), (.iload_n 3, 1, 0)] 47 [(0, .ref (b + v0)), (1, .int v1), (2, .int v2), (3, .int v3)] [.int v3, .int v3, .ref (b + a5)] (by decide +kernel) rfl rfl ?_
      refine jIf_ne C 50 56 (by decide +kernel : decode cX11_weaker 47 = .ok (.ifCond .ne 9, 3)) rfl rfl (fun c6 => ?_) (fun c6 => ?_)
      · have h := it2 h c6
        refine jB C [(.lconst 0, 1, 0)] 57 [(0, .ref (b + v0)), (1, .int v1), (2, .int v2), (3, .int v3)] [.long 0, .int v3, .ref (b + a5)] (by decide +kernel) rfl rfl ?_
        refine jSub [0, 1, 2, 3] rfl ?_
        exact j_X11_weaker_57 C hE t_v0 t_a5 ih h
      · have h := it1 h c6
        refine jLdc2 C 53 (by decide +kernel : decode cX11_weaker 50 = .ok (.ldc2_w 524, 3)) rfl wd_1790 ?_
        refine jGoto C 57 (by decide +kernel : decode cX11_weaker 53 = .ok (.goto 4, 3)) rfl ?_
        refine jSub [0, 1, 2, 3] rfl ?_
        exact j_X11_weaker_57 C hE t_v0 t_a5 ih h
theorem j_X11_weaker_35 {p : Program} {l : Launch} {e : Env} {s : State} {m : MethodId} {args : Array Value} {below : List Frame} {meth : Method} {c : Code} {b : Nat} {D : va_G} {cy : Nat → ClassId} {G : Gm} {v0 : Nat} {v1 : Int32} {v2 : Int32} {v3 : Int32} {S : St} {Q : Int64 → St → Prop} (C : CX p s m args meth c b D cy cX11_weaker RX11 8 (some .long)) (hE : s.heap.size + 0 ≤ b + G.2.2) (t_v0 : ok G 10 v0) (h : f_X11_weaker_35 G v0 v1 v2 Q v3 S) : J p l e rm_X11_weaker s m args below meth c b D cy 8 (zL b D cy below args s G Q) 0 0 G S 35 [(0, .ref (b + v0)), (1, .int v1), (2, .int v2), (3, .int v3)] [] := by
  obtain ⟨k, h⟩ := h
  exact j_X11_weaker_35_n C hE t_v0 k v3 S h
set_option maxHeartbeats 4000000 in
set_option maxRecDepth 100000 in
theorem j_X11_weaker_29 {p : Program} {l : Launch} {e : Env} {s : State} {m : MethodId} {args : Array Value} {below : List Frame} {meth : Method} {c : Code} {b : Nat} {D : va_G} {cy : Nat → ClassId} {G : Gm} {S : St} {Q : Int64 → St → Prop} (C : CX p s m args meth c b D cy cX11_weaker RX11 8 (some .long)) (hE : s.heap.size + 0 ≤ b + G.2.2) (h : f_X11_weaker_29 G Q S) : J p l e rm_X11_weaker s m args below meth c b D cy 8 (zL b D cy below args s G Q) 0 0 G S 29 [] [] := by
  unfold f_X11_weaker_29 at h
  refine jLdc2 C 32 (by decide +kernel : decode cX11_weaker 29 = .ok (.ldc2_w 298, 3)) rfl wd_1405 ?_
  exact jRetL C (by decide +kernel : decode cX11_weaker 32 = .ok (.lreturn, 1)) (Nat.le_refl _) (Nat.le_refl _) ⟨rfl, h⟩
set_option maxHeartbeats 4000000 in
set_option maxRecDepth 100000 in
theorem j_X11_weaker {p : Program} {l : Launch} {e : Env} {s : State} {m : MethodId} {args : Array Value} {below : List Frame} {meth : Method} {c : Code} {b : Nat} {D : va_G} {cy : Nat → ClassId} {G : Gm} {v0 : Nat} {v1 : Int32} {v2 : Int32} {S : St} {Q : Int64 → St → Prop} (C : CX p s m args meth c b D cy cX11_weaker RX11 8 (some .long)) (hE : s.heap.size + 0 ≤ b + G.2.2) (t_v0 : ok G 10 v0) (h : f_X11_weaker G v0 v1 v2 Q S) : J p l e rm_X11_weaker s m args below meth c b D cy 8 (zL b D cy below args s G Q) 0 0 G S 0 [(0, .ref (b + v0)), (1, .int v1), (2, .int v2)] [] := by
  unfold f_X11_weaker at h
  refine jB C [(.aload_n 0, 1, 0), (.iconst 0, 1, 0)] 2 [(0, .ref (b + v0)), (1, .int v1), (2, .int v2)] [.int 0, .ref (b + v0)] (by decide +kernel) rfl rfl ?_
  refine jPutI C 5 (by decide +kernel : decode cX11_weaker 2 = .ok (.putfield 165, 3)) rfl hE t_v0 kX11 0 (by decide) rfl rfl (by decide) rfl wd_1154 rfl rfl rfl ?_
  refine jTopS (fun S1 e_S1 => ?_)
  have h := h S1 e_S1
  refine jB C [(.iload_n 1, 1, 0), (.i2l, 1, 0), (.lconst 0, 1, 0)] 8 [(0, .ref (b + v0)), (1, .int v1), (2, .int v2)] [.long 0, .long v1.toInt64] (by decide +kernel) rfl rfl ?_
  refine jLdc2 C 11 (by decide +kernel : decode cX11_weaker 8 = .ok (.ldc2_w 320, 3)) rfl wd_1615 ?_
  refine jcS_I C 14 (rest := []) (ok_X11_in h) (by decide +kernel : decode cX11_weaker 11 = .ok (.invokestatic 185, 3)) rfl wd_1352 wd_1353 wd_12 wd_1354 ⟨rfl, rfl⟩ hd_X11_in ⟨Nat.le_of_ble_eq_true rfl, Nat.le_of_ble_eq_true rfl⟩ rfl rfl (Nat.le_of_ble_eq_true rfl) ⟨Nat.zero_le _, Nat.zero_le _⟩ (fun r3 S2 h => ?_)
  refine jIf_eq C 17 29 (by decide +kernel : decode cX11_weaker 14 = .ok (.ifCond .eq 15, 3)) rfl rfl (fun c4 => ?_) (fun c4 => ?_)
  · have h := it1 h c4
    refine jSub [] rfl ?_
    exact j_X11_weaker_29 C hE h
  · have h := it2 h c4
    refine jB C [(.iload_n 2, 1, 0), (.i2l, 1, 0), (.lconst 0, 1, 0)] 20 [(0, .ref (b + v0)), (1, .int v1), (2, .int v2)] [.long 0, .long v2.toInt64] (by decide +kernel) rfl rfl ?_
    refine jLdc2 C 23 (by decide +kernel : decode cX11_weaker 20 = .ok (.ldc2_w 522, 3)) rfl wd_1789 ?_
    refine jcS_I C 26 (rest := []) (ok_X11_in h) (by decide +kernel : decode cX11_weaker 23 = .ok (.invokestatic 185, 3)) rfl wd_1352 wd_1353 wd_12 wd_1354 ⟨rfl, rfl⟩ hd_X11_in ⟨Nat.le_of_ble_eq_true rfl, Nat.le_of_ble_eq_true rfl⟩ rfl rfl (Nat.le_of_ble_eq_true rfl) ⟨Nat.zero_le _, Nat.zero_le _⟩ (fun r6 S5 h => ?_)
    refine jIf_ne C 29 33 (by decide +kernel : decode cX11_weaker 26 = .ok (.ifCond .ne 7, 3)) rfl rfl (fun c7 => ?_) (fun c7 => ?_)
    · have h := it2 h c7
      refine jB C [(.iconst 0, 1, 0), (.istore_n 3, 1, 0)] 35 [(3, .int 0), (0, .ref (b + v0)), (1, .int v1), (2, .int v2)] [] (by decide +kernel) rfl rfl ?_
      refine jSub [1, 2, 3, 0] rfl ?_
      exact j_X11_weaker_35 C hE t_v0 h
    · have h := it1 h c7
      refine jSub [] rfl ?_
      exact j_X11_weaker_29 C hE h
theorem ok_X11_weaker {G : Gm} {v0 : Nat} {v1 : Int32} {v2 : Int32} {S : St} {Q : Int64 → St → Prop}  (t_v0 : ok G 10 v0) (h : f_X11_weaker G v0 v1 v2 Q S) : MT yX11_weaker cX11_weaker 8 (some .long) rm_X11_weaker 0 0 (fun b => [.ref (b + v0), .int v1, .int v2]) G S (QL (fun r G1 S1 => G1 = G ∧ Q r S1)) := MT.ofJ (by decide +kernel) (fun b => [(0, .ref (b + v0)), (1, .int v1), (2, .int v2)]) (fun b => rfl) (fun b => Nat.le_of_ble_eq_true rfl) (fun l b D cy p e s m below meth c C hE hn => j_X11_weaker C hE t_v0 h)
theorem hd_X11_weaker : yX11_weaker.cls ≠ "java/lang/invoke/MethodHandle" ∧ yX11_weaker.cls ≠ "java/lang/invoke/VarHandle" ∧ (parseMethodDescriptor yX11_weaker.desc).map (fun d => d.parameters.length) = some 2 := by decide +kernel
