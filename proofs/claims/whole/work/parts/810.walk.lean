abbrev rm_X11_tells : Room := { frames := 5, cells := 0, slots := 0, locals := 113 }
set_option maxHeartbeats 4000000 in
set_option maxRecDepth 100000 in
theorem j_X11_tells_184_n {p : Program} {l : Launch} {e : Env} {s : State} {m : MethodId} {args : Array Value} {below : List Frame} {meth : Method} {c : Code} {b : Nat} {D : va_G} {cy : Nat → ClassId} {G : Gm} {v0 : Nat} {v1 : Int32} {Q : Int64 → St → Prop} (C : CX p s m args meth c b D cy cX11_tells RX11 11 (some .long)) (hE : s.heap.size + 0 ≤ b + G.2.2) (t_v0 : ok G 10 v0) : ∀ k (v7 : Int64) (v9 : Int32) S, f_X11_tells_184_n G v0 v1 Q k v7 v9 S → J p l e rm_X11_tells s m args below meth c b D cy 11 (zL b D cy below args s G Q) 0 0 G S 184 [(0, .ref (b + v0)), (1, .int v1), (7, .long v7), (9, .int v9)] [] := by
  intro k
  induction k with
  | zero => intro v7 v9 S h; exact h.elim
  | succ k ih =>
    intro v7 v9 S h
    unfold f_X11_tells_184_n at h
    refine jB C [(.iload 9, 2, 0), (.aload_n 0, 1, 0)] 187 [(0, .ref (b + v0)), (1, .int v1), (7, .long v7), (9, .int v9)] [.ref (b + v0), .int v9] (by decide +kernel) rfl rfl ?_
    obtain ⟨a1, e_a1, h⟩ := h
    refine jGetR C 190 (by decide +kernel : decode cX11_tells 187 = .ok (.getfield 16, 3)) rfl t_v0 kX11 4 (by decide) rfl rfl (by decide) wd_1158 e_a1 rfl (fun t_a1 => ?_)
    refine jB C [(.aload_n 0, 1, 0)] 191 [(0, .ref (b + v0)), (1, .int v1), (7, .long v7), (9, .int v9)] [.ref (b + v0), .ref (b + a1), .int v9] (by decide +kernel) rfl rfl ?_
    refine jGetI C 194 (by decide +kernel : decode cX11_tells 191 = .ok (.getfield 422, 3)) rfl t_v0 kX11 35 (by decide) rfl rfl (by decide) wd_1189 ?_
    refine jB C [(.iconst 1, 1, 1), (.iadd, 1, 0)] 196 [(0, .ref (b + v0)), (1, .int v1), (7, .long v7), (9, .int v9)] [.int ((S.1 v0 35) + 1), .ref (b + a1), .int v9] (by decide +kernel) rfl rfl ?_
    obtain ⟨y2, h⟩ := h
    refine jIald C 197 (by decide +kernel : decode cX11_tells 196 = .ok (.iaload, 1)) rfl t_a1 y2 ?_
    refine jIcmp_ge C 200 255 (by decide +kernel : decode cX11_tells 197 = .ok (.if_icmp .ge 58, 3)) rfl rfl (fun c3 => ?_) (fun c3 => ?_)
    · have h := it1 h c3
      refine jB C [(.lload 7, 2, 0)] 257 [(0, .ref (b + v0)), (1, .int v1), (7, .long v7), (9, .int v9)] [.long v7] (by decide +kernel) rfl rfl ?_
      exact jRetL C (by decide +kernel : decode cX11_tells 257 = .ok (.lreturn, 1)) (Nat.le_refl _) (Nat.le_refl _) ⟨rfl, h⟩
    · have h := it2 h c3
      refine jB C [(.aload_n 0, 1, 0)] 201 [(0, .ref (b + v0)), (1, .int v1), (7, .long v7), (9, .int v9)] [.ref (b + v0)] (by decide +kernel) rfl rfl ?_
      refine jGetI C 204 (by decide +kernel : decode cX11_tells 201 = .ok (.getfield 422, 3)) rfl t_v0 kX11 35 (by decide) rfl rfl (by decide) wd_1189 ?_
      refine jB C [(.iconst 2, 1, 2), (.iadd, 1, 0), (.bipush 8, 2, 8), (.iload 9, 2, 0), (.imul, 1, 0), (.iadd, 1, 0)] 212 [(0, .ref (b + v0)), (1, .int v1), (7, .long v7), (9, .int v9)] [.int (((S.1 v0 35) + 2) + (8 * v9))] (by decide +kernel) rfl rfl ?_
      refine jTopI (fun x4 e_x4 => ?_)
      have h := h x4 e_x4
      refine jB C [(.istore 10, 2, 0), (.aload_n 0, 1, 0)] 215 [(10, .int x4), (0, .ref (b + v0)), (1, .int v1), (7, .long v7), (9, .int v9)] [.ref (b + v0)] (by decide +kernel) rfl rfl ?_
      obtain ⟨a5, e_a5, h⟩ := h
      refine jGetR C 218 (by decide +kernel : decode cX11_tells 215 = .ok (.getfield 16, 3)) rfl t_v0 kX11 4 (by decide) rfl rfl (by decide) wd_1158 e_a5 rfl (fun t_a5 => ?_)
      refine jB C [(.iload 10, 2, 0)] 220 [(10, .int x4), (0, .ref (b + v0)), (1, .int v1), (7, .long v7), (9, .int v9)] [.int x4, .ref (b + a5)] (by decide +kernel) rfl rfl ?_
      obtain ⟨y6, h⟩ := h
      refine jIald C 221 (by decide +kernel : decode cX11_tells 220 = .ok (.iaload, 1)) rfl t_a5 y6 ?_
      refine jB C [(.iload_n 1, 1, 0)] 222 [(10, .int x4), (0, .ref (b + v0)), (1, .int v1), (7, .long v7), (9, .int v9)] [.int v1, .int (S.1 a5 x4.toNatClampNeg)] (by decide +kernel) rfl rfl ?_
      refine jIcmp_ne C 225 249 (by decide +kernel : decode cX11_tells 222 = .ok (.if_icmp .ne 27, 3)) rfl rfl (fun c7 => ?_) (fun c7 => ?_)
      · have h := it2 h c7
        refine jB C [(.iinc 9 1, 3, 1)] 252 [(9, .int (v9 + 1)), (10, .int x4), (0, .ref (b + v0)), (1, .int v1), (7, .long v7)] [] (by decide +kernel) rfl rfl ?_
        refine jGoto C 184 (by decide +kernel : decode cX11_tells 252 = .ok (.goto (-68), 3)) rfl ?_
        refine jSub [2, 3, 4, 0] rfl ?_
        exact ih v7 (v9 + 1) S h
      · have h := it1 h c7
        refine jB C [(.aload_n 0, 1, 0), (.iload 10, 2, 0)] 228 [(10, .int x4), (0, .ref (b + v0)), (1, .int v1), (7, .long v7), (9, .int v9)] [.int x4, .ref (b + v0)] (by decide +kernel) rfl rfl ?_
        refine jcV_I C 231 (rest := []) (ok_X11_isSo t_v0 h) (by decide +kernel : decode cX11_tells 228 = .ok (.invokevirtual 451, 3)) rfl wd_1413 wd_1415 wp_110 wd_12 wd_1416 ⟨rfl, rfl⟩ hd_X11_isSo ⟨Nat.le_of_ble_eq_true rfl, Nat.le_of_ble_eq_true rfl⟩ t_v0 kX11 (by decide) rfl rfl rfl (Nat.le_of_ble_eq_true rfl) ⟨Nat.zero_le _, Nat.zero_le _⟩ (fun r9 S8 h => ?_)
        refine jIf_eq C 234 249 (by decide +kernel : decode cX11_tells 231 = .ok (.ifCond .eq 18, 3)) rfl rfl (fun c10 => ?_) (fun c10 => ?_)
        · have h := it1 h c10
          refine jB C [(.iinc 9 1, 3, 1)] 252 [(9, .int (v9 + 1)), (10, .int x4), (0, .ref (b + v0)), (1, .int v1), (7, .long v7)] [] (by decide +kernel) rfl rfl ?_
          refine jGoto C 184 (by decide +kernel : decode cX11_tells 252 = .ok (.goto (-68), 3)) rfl ?_
          refine jSub [2, 3, 4, 0] rfl ?_
          exact ih v7 (v9 + 1) S8 h
        · have h := it2 h c10
          refine jB C [(.iload_n 1, 1, 0), (.iconst 3, 1, 3)] 236 [(10, .int x4), (0, .ref (b + v0)), (1, .int v1), (7, .long v7), (9, .int v9)] [.int 3, .int v1] (by decide +kernel) rfl rfl ?_
          refine jIcmp_ne C 239 243 (by decide +kernel : decode cX11_tells 236 = .ok (.if_icmp .ne 7, 3)) rfl rfl (fun c11 => ?_) (fun c11 => ?_)
          · have h := it2 h c11
            refine jB C [(.aload_n 0, 1, 0)] 244 [(10, .int x4), (0, .ref (b + v0)), (1, .int v1), (7, .long v7), (9, .int v9)] [.ref (b + v0)] (by decide +kernel) rfl rfl ?_
            refine jGetJ C 247 (by decide +kernel : decode cX11_tells 244 = .ok (.getfield 442, 3)) rfl t_v0 kX11 42 (by decide) rfl rfl (by decide) wd_1196 ?_
            refine jTopL (fun x12 e_x12 => ?_)
            have h := h x12 e_x12
            refine jB C [(.lstore 7, 2, 0), (.iinc 9 1, 3, 1)] 252 [(9, .int (v9 + 1)), (7, .long x12), (10, .int x4), (0, .ref (b + v0)), (1, .int v1)] [] (by decide +kernel) rfl rfl ?_
            refine jGoto C 184 (by decide +kernel : decode cX11_tells 252 = .ok (.goto (-68), 3)) rfl ?_
            refine jSub [3, 4, 1, 0] rfl ?_
            exact ih x12 (v9 + 1) S8 h
          · have h := it1 h c11
            refine jB C [(.lconst 1, 1, 0)] 240 [(10, .int x4), (0, .ref (b + v0)), (1, .int v1), (7, .long v7), (9, .int v9)] [.long 1] (by decide +kernel) rfl rfl ?_
            refine jGoto C 247 (by decide +kernel : decode cX11_tells 240 = .ok (.goto 7, 3)) rfl ?_
            refine jB C [(.lstore 7, 2, 0), (.iinc 9 1, 3, 1)] 252 [(9, .int (v9 + 1)), (7, .long 1), (10, .int x4), (0, .ref (b + v0)), (1, .int v1)] [] (by decide +kernel) rfl rfl ?_
            refine jGoto C 184 (by decide +kernel : decode cX11_tells 252 = .ok (.goto (-68), 3)) rfl ?_
            refine jSub [3, 4, 1, 0] rfl ?_
            exact ih 1 (v9 + 1) S8 h
theorem j_X11_tells_184 {p : Program} {l : Launch} {e : Env} {s : State} {m : MethodId} {args : Array Value} {below : List Frame} {meth : Method} {c : Code} {b : Nat} {D : va_G} {cy : Nat → ClassId} {G : Gm} {v0 : Nat} {v1 : Int32} {v7 : Int64} {v9 : Int32} {S : St} {Q : Int64 → St → Prop} (C : CX p s m args meth c b D cy cX11_tells RX11 11 (some .long)) (hE : s.heap.size + 0 ≤ b + G.2.2) (t_v0 : ok G 10 v0) (h : f_X11_tells_184 G v0 v1 Q v7 v9 S) : J p l e rm_X11_tells s m args below meth c b D cy 11 (zL b D cy below args s G Q) 0 0 G S 184 [(0, .ref (b + v0)), (1, .int v1), (7, .long v7), (9, .int v9)] [] := by
  obtain ⟨k, h⟩ := h
  exact j_X11_tells_184_n C hE t_v0 k v7 v9 S h
set_option maxHeartbeats 4000000 in
set_option maxRecDepth 100000 in
theorem j_X11_tells_147 {p : Program} {l : Launch} {e : Env} {s : State} {m : MethodId} {args : Array Value} {below : List Frame} {meth : Method} {c : Code} {b : Nat} {D : va_G} {cy : Nat → ClassId} {G : Gm} {v0 : Nat} {v1 : Int32} {v5 : Int64} {u0 : Int64} {u1 : Int32} {u2 : Nat} {S : St} {Q : Int64 → St → Prop} (C : CX p s m args meth c b D cy cX11_tells RX11 11 (some .long)) (hE : s.heap.size + 0 ≤ b + G.2.2) (t_v0 : ok G 10 v0) (t_u2 : ok G 12 u2) (h : f_X11_tells_147 G v0 v1 v5 u0 u1 u2 Q S) : J p l e rm_X11_tells s m args below meth c b D cy 11 (zL b D cy below args s G Q) 0 0 G S 147 [(0, .ref (b + v0)), (1, .int v1), (5, .long v5)] [.long u0, .int u1, .ref (b + u2)] := by
  unfold f_X11_tells_147 at h
  obtain ⟨y1, h⟩ := h
  refine jLast C 148 (by decide +kernel : decode cX11_tells 147 = .ok (.lastore, 1)) rfl hE t_u2 y1 ?_
  refine jTopS (fun S2 e_S2 => ?_)
  have h := h S2 e_S2
  refine jB C [(.aload_n 0, 1, 0)] 149 [(0, .ref (b + v0)), (1, .int v1), (5, .long v5)] [.ref (b + v0)] (by decide +kernel) rfl rfl ?_
  obtain ⟨a3, e_a3, h⟩ := h
  refine jGetR C 152 (by decide +kernel : decode cX11_tells 149 = .ok (.getfield 102, 3)) rfl t_v0 kX11 36 (by decide) rfl rfl (by decide) wd_1190 e_a3 rfl (fun t_a3 => ?_)
  refine jB C [(.bipush 8, 2, 8), (.aload_n 0, 1, 0)] 155 [(0, .ref (b + v0)), (1, .int v1), (5, .long v5)] [.ref (b + v0), .int 8, .ref (b + a3)] (by decide +kernel) rfl rfl ?_
  obtain ⟨a4, e_a4, h⟩ := h
  refine jGetR C 158 (by decide +kernel : decode cX11_tells 155 = .ok (.getfield 16, 3)) rfl t_v0 kX11 4 (by decide) rfl rfl (by decide) wd_1158 e_a4 rfl (fun t_a4 => ?_)
  refine jB C [(.iconst 4, 1, 4)] 159 [(0, .ref (b + v0)), (1, .int v1), (5, .long v5)] [.int 4, .ref (b + a4), .int 8, .ref (b + a3)] (by decide +kernel) rfl rfl ?_
  obtain ⟨y5, h⟩ := h
  refine jIald C 160 (by decide +kernel : decode cX11_tells 159 = .ok (.iaload, 1)) rfl t_a4 y5 ?_
  refine jB C [(.i2l, 1, 0)] 161 [(0, .ref (b + v0)), (1, .int v1), (5, .long v5)] [.long ((S2.1 a4 (4 : Int32).toNatClampNeg).toInt64), .int 8, .ref (b + a3)] (by decide +kernel) rfl rfl ?_
  obtain ⟨y6, h⟩ := h
  refine jLast C 162 (by decide +kernel : decode cX11_tells 161 = .ok (.lastore, 1)) rfl hE t_a3 y6 ?_
  refine jTopS (fun S7 e_S7 => ?_)
  have h := h S7 e_S7
  refine jB C [(.aload_n 0, 1, 0)] 163 [(0, .ref (b + v0)), (1, .int v1), (5, .long v5)] [.ref (b + v0)] (by decide +kernel) rfl rfl ?_
  obtain ⟨a8, e_a8, h⟩ := h
  refine jGetR C 166 (by decide +kernel : decode cX11_tells 163 = .ok (.getfield 102, 3)) rfl t_v0 kX11 36 (by decide) rfl rfl (by decide) wd_1190 e_a8 rfl (fun t_a8 => ?_)
  refine jB C [(.bipush 9, 2, 9), (.aload_n 0, 1, 0)] 169 [(0, .ref (b + v0)), (1, .int v1), (5, .long v5)] [.ref (b + v0), .int 9, .ref (b + a8)] (by decide +kernel) rfl rfl ?_
  obtain ⟨a9, e_a9, h⟩ := h
  refine jGetR C 172 (by decide +kernel : decode cX11_tells 169 = .ok (.getfield 16, 3)) rfl t_v0 kX11 4 (by decide) rfl rfl (by decide) wd_1158 e_a9 rfl (fun t_a9 => ?_)
  refine jB C [(.bipush 6, 2, 6)] 174 [(0, .ref (b + v0)), (1, .int v1), (5, .long v5)] [.int 6, .ref (b + a9), .int 9, .ref (b + a8)] (by decide +kernel) rfl rfl ?_
  obtain ⟨y10, h⟩ := h
  refine jIald C 175 (by decide +kernel : decode cX11_tells 174 = .ok (.iaload, 1)) rfl t_a9 y10 ?_
  refine jB C [(.i2l, 1, 0)] 176 [(0, .ref (b + v0)), (1, .int v1), (5, .long v5)] [.long ((S7.1 a9 (6 : Int32).toNatClampNeg).toInt64), .int 9, .ref (b + a8)] (by decide +kernel) rfl rfl ?_
  obtain ⟨y11, h⟩ := h
  refine jLast C 177 (by decide +kernel : decode cX11_tells 176 = .ok (.lastore, 1)) rfl hE t_a8 y11 ?_
  refine jTopS (fun S12 e_S12 => ?_)
  have h := h S12 e_S12
  refine jB C [(.lload 5, 2, 0), (.lstore 7, 2, 0), (.iconst 0, 1, 0), (.istore 9, 2, 0)] 184 [(9, .int 0), (7, .long v5), (0, .ref (b + v0)), (1, .int v1), (5, .long v5)] [] (by decide +kernel) rfl rfl ?_
  refine jSub [2, 3, 1, 0] rfl ?_
  exact j_X11_tells_184 C hE t_v0 h
set_option maxHeartbeats 4000000 in
set_option maxRecDepth 100000 in
theorem j_X11_tells_122 {p : Program} {l : Launch} {e : Env} {s : State} {m : MethodId} {args : Array Value} {below : List Frame} {meth : Method} {c : Code} {b : Nat} {D : va_G} {cy : Nat → ClassId} {G : Gm} {v0 : Nat} {v1 : Int32} {v4 : Int32} {v5 : Int64} {u0 : Int64} {u1 : Int32} {u2 : Nat} {S : St} {Q : Int64 → St → Prop} (C : CX p s m args meth c b D cy cX11_tells RX11 11 (some .long)) (hE : s.heap.size + 0 ≤ b + G.2.2) (t_v0 : ok G 10 v0) (t_u2 : ok G 12 u2) (h : f_X11_tells_122 G v0 v1 v4 v5 u0 u1 u2 Q S) : J p l e rm_X11_tells s m args below meth c b D cy 11 (zL b D cy below args s G Q) 0 0 G S 122 [(0, .ref (b + v0)), (1, .int v1), (4, .int v4), (5, .long v5)] [.long u0, .int u1, .ref (b + u2)] := by
  unfold f_X11_tells_122 at h
  obtain ⟨y1, h⟩ := h
  refine jLast C 123 (by decide +kernel : decode cX11_tells 122 = .ok (.lastore, 1)) rfl hE t_u2 y1 ?_
  refine jTopS (fun S2 e_S2 => ?_)
  have h := h S2 e_S2
  refine jB C [(.aload_n 0, 1, 0)] 124 [(0, .ref (b + v0)), (1, .int v1), (4, .int v4), (5, .long v5)] [.ref (b + v0)] (by decide +kernel) rfl rfl ?_
  obtain ⟨a3, e_a3, h⟩ := h
  refine jGetR C 127 (by decide +kernel : decode cX11_tells 124 = .ok (.getfield 102, 3)) rfl t_v0 kX11 36 (by decide) rfl rfl (by decide) wd_1190 e_a3 rfl (fun t_a3 => ?_)
  refine jB C [(.bipush 7, 2, 7), (.iload 4, 2, 0), (.iconst (-1), 1, (-1))] 132 [(0, .ref (b + v0)), (1, .int v1), (4, .int v4), (5, .long v5)] [.int (-1), .int v4, .int 7, .ref (b + a3)] (by decide +kernel) rfl rfl ?_
  refine jIcmp_ne C 135 141 (by decide +kernel : decode cX11_tells 132 = .ok (.if_icmp .ne 9, 3)) rfl rfl (fun c4 => ?_) (fun c4 => ?_)
  · have h := it2 h c4
    refine jB C [(.iload 4, 2, 0)] 143 [(0, .ref (b + v0)), (1, .int v1), (4, .int v4), (5, .long v5)] [.int v4, .int 7, .ref (b + a3)] (by decide +kernel) rfl rfl ?_
    refine jcS_I C 146 (rest := [.int 7, .ref (b + a3)]) (ok_X11_firstOf h) (by decide +kernel : decode cX11_tells 143 = .ok (.invokestatic 448, 3)) rfl wd_1410 wd_1411 wd_12 wd_1412 ⟨rfl, rfl⟩ hd_X11_firstOf ⟨Nat.le_of_ble_eq_true rfl, Nat.le_of_ble_eq_true rfl⟩ rfl rfl (Nat.le_of_ble_eq_true rfl) ⟨Nat.zero_le _, Nat.zero_le _⟩ (fun r6 S5 h => ?_)
    refine jB C [(.i2l, 1, 0)] 147 [(0, .ref (b + v0)), (1, .int v1), (4, .int v4), (5, .long v5)] [.long r6.toInt64, .int 7, .ref (b + a3)] (by decide +kernel) rfl rfl ?_
    refine jSub [0, 1, 3] rfl ?_
    exact j_X11_tells_147 C hE t_v0 t_a3 h
  · have h := it1 h c4
    refine jLdc2 C 138 (by decide +kernel : decode cX11_tells 135 = .ok (.ldc2_w 298, 3)) rfl wd_1405 ?_
    refine jGoto C 147 (by decide +kernel : decode cX11_tells 138 = .ok (.goto 9, 3)) rfl ?_
    refine jSub [0, 1, 3] rfl ?_
    exact j_X11_tells_147 C hE t_v0 t_a3 h
set_option maxHeartbeats 4000000 in
set_option maxRecDepth 100000 in
theorem j_X11_tells_76 {p : Program} {l : Launch} {e : Env} {s : State} {m : MethodId} {args : Array Value} {below : List Frame} {meth : Method} {c : Code} {b : Nat} {D : va_G} {cy : Nat → ClassId} {G : Gm} {v0 : Nat} {v1 : Int32} {v2 : Int32} {v4 : Int32} {v5 : Int64} {u0 : Int64} {u1 : Int32} {u2 : Nat} {S : St} {Q : Int64 → St → Prop} (C : CX p s m args meth c b D cy cX11_tells RX11 11 (some .long)) (hE : s.heap.size + 0 ≤ b + G.2.2) (t_v0 : ok G 10 v0) (t_u2 : ok G 12 u2) (h : f_X11_tells_76 G v0 v1 v2 v4 v5 u0 u1 u2 Q S) : J p l e rm_X11_tells s m args below meth c b D cy 11 (zL b D cy below args s G Q) 0 0 G S 76 [(0, .ref (b + v0)), (1, .int v1), (2, .int v2), (4, .int v4), (5, .long v5)] [.long u0, .int u1, .ref (b + u2)] := by
  unfold f_X11_tells_76 at h
  obtain ⟨y1, h⟩ := h
  refine jLast C 77 (by decide +kernel : decode cX11_tells 76 = .ok (.lastore, 1)) rfl hE t_u2 y1 ?_
  refine jTopS (fun S2 e_S2 => ?_)
  have h := h S2 e_S2
  refine jB C [(.aload_n 0, 1, 0)] 78 [(0, .ref (b + v0)), (1, .int v1), (2, .int v2), (4, .int v4), (5, .long v5)] [.ref (b + v0)] (by decide +kernel) rfl rfl ?_
  obtain ⟨a3, e_a3, h⟩ := h
  refine jGetR C 81 (by decide +kernel : decode cX11_tells 78 = .ok (.getfield 102, 3)) rfl t_v0 kX11 36 (by decide) rfl rfl (by decide) wd_1190 e_a3 rfl (fun t_a3 => ?_)
  refine jB C [(.iconst 4, 1, 4), (.aload_n 0, 1, 0), (.iload_n 2, 1, 0)] 84 [(0, .ref (b + v0)), (1, .int v1), (2, .int v2), (4, .int v4), (5, .long v5)] [.int v2, .ref (b + v0), .int 4, .ref (b + a3)] (by decide +kernel) rfl rfl ?_
  refine jcV_I C 87 (rest := [.int 4, .ref (b + a3)]) (ok_X11_sinsOf t_v0 h) (by decide +kernel : decode cX11_tells 84 = .ok (.invokevirtual 425, 3)) rfl wd_1406 wd_1408 wp_109 wd_12 wd_1409 ⟨rfl, rfl⟩ hd_X11_sinsOf ⟨Nat.le_of_ble_eq_true rfl, Nat.le_of_ble_eq_true rfl⟩ t_v0 kX11 (by decide) rfl rfl rfl (Nat.le_of_ble_eq_true rfl) ⟨Nat.zero_le _, Nat.zero_le _⟩ (fun r5 S4 h => ?_)
  refine jB C [(.i2l, 1, 0)] 88 [(0, .ref (b + v0)), (1, .int v1), (2, .int v2), (4, .int v4), (5, .long v5)] [.long r5.toInt64, .int 4, .ref (b + a3)] (by decide +kernel) rfl rfl ?_
  obtain ⟨y6, h⟩ := h
  refine jLast C 89 (by decide +kernel : decode cX11_tells 88 = .ok (.lastore, 1)) rfl hE t_a3 y6 ?_
  refine jTopS (fun S7 e_S7 => ?_)
  have h := h S7 e_S7
  refine jB C [(.aload_n 0, 1, 0)] 90 [(0, .ref (b + v0)), (1, .int v1), (2, .int v2), (4, .int v4), (5, .long v5)] [.ref (b + v0)] (by decide +kernel) rfl rfl ?_
  obtain ⟨a8, e_a8, h⟩ := h
  refine jGetR C 93 (by decide +kernel : decode cX11_tells 90 = .ok (.getfield 102, 3)) rfl t_v0 kX11 36 (by decide) rfl rfl (by decide) wd_1190 e_a8 rfl (fun t_a8 => ?_)
  refine jB C [(.iconst 5, 1, 5), (.iload 4, 2, 0), (.i2l, 1, 0)] 97 [(0, .ref (b + v0)), (1, .int v1), (2, .int v2), (4, .int v4), (5, .long v5)] [.long v4.toInt64, .int 5, .ref (b + a8)] (by decide +kernel) rfl rfl ?_
  obtain ⟨y9, h⟩ := h
  refine jLast C 98 (by decide +kernel : decode cX11_tells 97 = .ok (.lastore, 1)) rfl hE t_a8 y9 ?_
  refine jTopS (fun S10 e_S10 => ?_)
  have h := h S10 e_S10
  refine jB C [(.aload_n 0, 1, 0)] 99 [(0, .ref (b + v0)), (1, .int v1), (2, .int v2), (4, .int v4), (5, .long v5)] [.ref (b + v0)] (by decide +kernel) rfl rfl ?_
  obtain ⟨a11, e_a11, h⟩ := h
  refine jGetR C 102 (by decide +kernel : decode cX11_tells 99 = .ok (.getfield 102, 3)) rfl t_v0 kX11 36 (by decide) rfl rfl (by decide) wd_1190 e_a11 rfl (fun t_a11 => ?_)
  refine jB C [(.bipush 6, 2, 6), (.iload 4, 2, 0), (.iconst (-1), 1, (-1))] 107 [(0, .ref (b + v0)), (1, .int v1), (2, .int v2), (4, .int v4), (5, .long v5)] [.int (-1), .int v4, .int 6, .ref (b + a11)] (by decide +kernel) rfl rfl ?_
  refine jIcmp_ne C 110 116 (by decide +kernel : decode cX11_tells 107 = .ok (.if_icmp .ne 9, 3)) rfl rfl (fun c12 => ?_) (fun c12 => ?_)
  · have h := it2 h c12
    refine jB C [(.iload 4, 2, 0)] 118 [(0, .ref (b + v0)), (1, .int v1), (2, .int v2), (4, .int v4), (5, .long v5)] [.int v4, .int 6, .ref (b + a11)] (by decide +kernel) rfl rfl ?_
    refine jcS_I C 121 (rest := [.int 6, .ref (b + a11)]) (ok_X11_litOf h) (by decide +kernel : decode cX11_tells 118 = .ok (.invokestatic 445, 3)) rfl wd_1398 wd_1399 wd_12 wd_1400 ⟨rfl, rfl⟩ hd_X11_litOf ⟨Nat.le_of_ble_eq_true rfl, Nat.le_of_ble_eq_true rfl⟩ rfl rfl (Nat.le_of_ble_eq_true rfl) ⟨Nat.zero_le _, Nat.zero_le _⟩ (fun r14 S13 h => ?_)
    refine jB C [(.i2l, 1, 0)] 122 [(0, .ref (b + v0)), (1, .int v1), (2, .int v2), (4, .int v4), (5, .long v5)] [.long r14.toInt64, .int 6, .ref (b + a11)] (by decide +kernel) rfl rfl ?_
    refine jSub [0, 1, 3, 4] rfl ?_
    exact j_X11_tells_122 C hE t_v0 t_a11 h
  · have h := it1 h c12
    refine jLdc2 C 113 (by decide +kernel : decode cX11_tells 110 = .ok (.ldc2_w 298, 3)) rfl wd_1405 ?_
    refine jGoto C 122 (by decide +kernel : decode cX11_tells 113 = .ok (.goto 9, 3)) rfl ?_
    refine jSub [0, 1, 3, 4] rfl ?_
    exact j_X11_tells_122 C hE t_v0 t_a11 h
set_option maxHeartbeats 4000000 in
set_option maxRecDepth 100000 in
theorem j_X11_tells {p : Program} {l : Launch} {e : Env} {s : State} {m : MethodId} {args : Array Value} {below : List Frame} {meth : Method} {c : Code} {b : Nat} {D : va_G} {cy : Nat → ClassId} {G : Gm} {v0 : Nat} {v1 : Int32} {v2 : Int32} {v3 : Int32} {v4 : Int32} {v5 : Int64} {S : St} {Q : Int64 → St → Prop} (C : CX p s m args meth c b D cy cX11_tells RX11 11 (some .long)) (hE : s.heap.size + 0 ≤ b + G.2.2) (t_v0 : ok G 10 v0) (h : f_X11_tells G v0 v1 v2 v3 v4 v5 Q S) : J p l e rm_X11_tells s m args below meth c b D cy 11 (zL b D cy below args s G Q) 0 0 G S 0 [(0, .ref (b + v0)), (1, .int v1), (2, .int v2), (3, .int v3), (4, .int v4), (5, .long v5)] [] := by
  unfold f_X11_tells at h
  refine jB C [(.aload_n 0, 1, 0)] 1 [(0, .ref (b + v0)), (1, .int v1), (2, .int v2), (3, .int v3), (4, .int v4), (5, .long v5)] [.ref (b + v0)] (by decide +kernel) rfl rfl ?_
  obtain ⟨a1, e_a1, h⟩ := h
  refine jGetR C 4 (by decide +kernel : decode cX11_tells 1 = .ok (.getfield 16, 3)) rfl t_v0 kX11 4 (by decide) rfl rfl (by decide) wd_1158 e_a1 rfl (fun t_a1 => ?_)
  refine jB C [(.iconst 3, 1, 3)] 5 [(0, .ref (b + v0)), (1, .int v1), (2, .int v2), (3, .int v3), (4, .int v4), (5, .long v5)] [.int 3, .ref (b + a1)] (by decide +kernel) rfl rfl ?_
  obtain ⟨y2, h⟩ := h
  refine jIald C 6 (by decide +kernel : decode cX11_tells 5 = .ok (.iaload, 1)) rfl t_a1 y2 ?_
  refine jB C [(.iconst (-1), 1, (-1))] 7 [(0, .ref (b + v0)), (1, .int v1), (2, .int v2), (3, .int v3), (4, .int v4), (5, .long v5)] [.int (-1), .int (S.1 a1 (3 : Int32).toNatClampNeg)] (by decide +kernel) rfl rfl ?_
  refine jIcmp_ne C 10 13 (by decide +kernel : decode cX11_tells 7 = .ok (.if_icmp .ne 6, 3)) rfl rfl (fun c3 => ?_) (fun c3 => ?_)
  · have h := it2 h c3
    refine jB C [(.aload_n 0, 1, 0), (.bipush 85, 2, 85), (.sipush 900, 3, 900), (.aload_n 0, 1, 0)] 20 [(0, .ref (b + v0)), (1, .int v1), (2, .int v2), (3, .int v3), (4, .int v4), (5, .long v5)] [.ref (b + v0), .int 900, .int 85, .ref (b + v0)] (by decide +kernel) rfl rfl ?_
    obtain ⟨a4, e_a4, h⟩ := h
    refine jGetR C 23 (by decide +kernel : decode cX11_tells 20 = .ok (.getfield 16, 3)) rfl t_v0 kX11 4 (by decide) rfl rfl (by decide) wd_1158 e_a4 rfl (fun t_a4 => ?_)
    refine jB C [(.iconst 3, 1, 3)] 24 [(0, .ref (b + v0)), (1, .int v1), (2, .int v2), (3, .int v3), (4, .int v4), (5, .long v5)] [.int 3, .ref (b + a4), .int 900, .int 85, .ref (b + v0)] (by decide +kernel) rfl rfl ?_
    obtain ⟨y5, h⟩ := h
    refine jIald C 25 (by decide +kernel : decode cX11_tells 24 = .ok (.iaload, 1)) rfl t_a4 y5 ?_
    refine jB C [(.imul, 1, 0), (.iadd, 1, 0)] 27 [(0, .ref (b + v0)), (1, .int v1), (2, .int v2), (3, .int v3), (4, .int v4), (5, .long v5)] [.int (85 + (900 * (S.1 a4 (3 : Int32).toNatClampNeg))), .ref (b + v0)] (by decide +kernel) rfl rfl ?_
    refine jPutI C 30 (by decide +kernel : decode cX11_tells 27 = .ok (.putfield 422, 3)) rfl hE t_v0 kX11 35 (by decide) rfl rfl (by decide) rfl wd_1189 rfl rfl rfl ?_
    refine jTopS (fun S6 e_S6 => ?_)
    have h := h S6 e_S6
    refine jB C [(.aload_n 0, 1, 0)] 31 [(0, .ref (b + v0)), (1, .int v1), (2, .int v2), (3, .int v3), (4, .int v4), (5, .long v5)] [.ref (b + v0)] (by decide +kernel) rfl rfl ?_
    obtain ⟨a7, e_a7, h⟩ := h
    refine jGetR C 34 (by decide +kernel : decode cX11_tells 31 = .ok (.getfield 102, 3)) rfl t_v0 kX11 36 (by decide) rfl rfl (by decide) wd_1190 e_a7 rfl (fun t_a7 => ?_)
    refine jB C [(.iconst 1, 1, 1), (.iload_n 2, 1, 0), (.i2l, 1, 0)] 37 [(0, .ref (b + v0)), (1, .int v1), (2, .int v2), (3, .int v3), (4, .int v4), (5, .long v5)] [.long v2.toInt64, .int 1, .ref (b + a7)] (by decide +kernel) rfl rfl ?_
    obtain ⟨y8, h⟩ := h
    refine jLast C 38 (by decide +kernel : decode cX11_tells 37 = .ok (.lastore, 1)) rfl hE t_a7 y8 ?_
    refine jTopS (fun S9 e_S9 => ?_)
    have h := h S9 e_S9
    refine jB C [(.aload_n 0, 1, 0)] 39 [(0, .ref (b + v0)), (1, .int v1), (2, .int v2), (3, .int v3), (4, .int v4), (5, .long v5)] [.ref (b + v0)] (by decide +kernel) rfl rfl ?_
    obtain ⟨a10, e_a10, h⟩ := h
    refine jGetR C 42 (by decide +kernel : decode cX11_tells 39 = .ok (.getfield 102, 3)) rfl t_v0 kX11 36 (by decide) rfl rfl (by decide) wd_1190 e_a10 rfl (fun t_a10 => ?_)
    refine jB C [(.iconst 2, 1, 2), (.iload_n 3, 1, 0), (.i2l, 1, 0)] 45 [(0, .ref (b + v0)), (1, .int v1), (2, .int v2), (3, .int v3), (4, .int v4), (5, .long v5)] [.long v3.toInt64, .int 2, .ref (b + a10)] (by decide +kernel) rfl rfl ?_
    obtain ⟨y11, h⟩ := h
    refine jLast C 46 (by decide +kernel : decode cX11_tells 45 = .ok (.lastore, 1)) rfl hE t_a10 y11 ?_
    refine jTopS (fun S12 e_S12 => ?_)
    have h := h S12 e_S12
    refine jB C [(.aload_n 0, 1, 0)] 47 [(0, .ref (b + v0)), (1, .int v1), (2, .int v2), (3, .int v3), (4, .int v4), (5, .long v5)] [.ref (b + v0)] (by decide +kernel) rfl rfl ?_
    obtain ⟨a13, e_a13, h⟩ := h
    refine jGetR C 50 (by decide +kernel : decode cX11_tells 47 = .ok (.getfield 102, 3)) rfl t_v0 kX11 36 (by decide) rfl rfl (by decide) wd_1190 e_a13 rfl (fun t_a13 => ?_)
    refine jB C [(.iconst 3, 1, 3), (.iload_n 3, 1, 0), (.iconst (-1), 1, (-1))] 53 [(0, .ref (b + v0)), (1, .int v1), (2, .int v2), (3, .int v3), (4, .int v4), (5, .long v5)] [.int (-1), .int v3, .int 3, .ref (b + a13)] (by decide +kernel) rfl rfl ?_
    refine jIcmp_ne C 56 62 (by decide +kernel : decode cX11_tells 53 = .ok (.if_icmp .ne 9, 3)) rfl rfl (fun c14 => ?_) (fun c14 => ?_)
    · have h := it2 h c14
      refine jB C [(.aload_n 0, 1, 0)] 63 [(0, .ref (b + v0)), (1, .int v1), (2, .int v2), (3, .int v3), (4, .int v4), (5, .long v5)] [.ref (b + v0), .int 3, .ref (b + a13)] (by decide +kernel) rfl rfl ?_
      obtain ⟨a15, e_a15, h⟩ := h
      refine jGetR C 66 (by decide +kernel : decode cX11_tells 63 = .ok (.getfield 16, 3)) rfl t_v0 kX11 4 (by decide) rfl rfl (by decide) wd_1158 e_a15 rfl (fun t_a15 => ?_)
      refine jB C [(.bipush 8, 2, 8), (.iconst 4, 1, 4), (.iload_n 2, 1, 0), (.imul, 1, 0), (.iadd, 1, 0), (.iload_n 3, 1, 0), (.iadd, 1, 0)] 74 [(0, .ref (b + v0)), (1, .int v1), (2, .int v2), (3, .int v3), (4, .int v4), (5, .long v5)] [.int ((8 + (4 * v2)) + v3), .ref (b + a15), .int 3, .ref (b + a13)] (by decide +kernel) rfl rfl ?_
      obtain ⟨y16, h⟩ := h
      refine jIald C 75 (by decide +kernel : decode cX11_tells 74 = .ok (.iaload, 1)) rfl t_a15 y16 ?_
      refine jB C [(.i2l, 1, 0)] 76 [(0, .ref (b + v0)), (1, .int v1), (2, .int v2), (3, .int v3), (4, .int v4), (5, .long v5)] [.long ((S12.1 a15 ((8 + (4 * v2)) + v3).toNatClampNeg).toInt64), .int 3, .ref (b + a13)] (by decide +kernel) rfl rfl ?_
      refine jSub [0, 1, 2, 4, 5] rfl ?_
      exact j_X11_tells_76 C hE t_v0 t_a13 h
    · have h := it1 h c14
      refine jLdc2 C 59 (by decide +kernel : decode cX11_tells 56 = .ok (.ldc2_w 298, 3)) rfl wd_1405 ?_
      refine jGoto C 76 (by decide +kernel : decode cX11_tells 59 = .ok (.goto 17, 3)) rfl ?_
      refine jSub [0, 1, 2, 4, 5] rfl ?_
      exact j_X11_tells_76 C hE t_v0 t_a13 h
  · have h := it1 h c3
    refine jB C [(.lload 5, 2, 0)] 12 [(0, .ref (b + v0)), (1, .int v1), (2, .int v2), (3, .int v3), (4, .int v4), (5, .long v5)] [.long v5] (by decide +kernel) rfl rfl ?_
    exact jRetL C (by decide +kernel : decode cX11_tells 12 = .ok (.lreturn, 1)) (Nat.le_refl _) (Nat.le_refl _) ⟨rfl, h⟩
theorem ok_X11_tells {G : Gm} {v0 : Nat} {v1 : Int32} {v2 : Int32} {v3 : Int32} {v4 : Int32} {v5 : Int64} {S : St} {Q : Int64 → St → Prop}  (t_v0 : ok G 10 v0) (h : f_X11_tells G v0 v1 v2 v3 v4 v5 Q S) : MT yX11_tells cX11_tells 11 (some .long) rm_X11_tells 0 0 (fun b => [.ref (b + v0), .int v1, .int v2, .int v3, .int v4, .long v5]) G S (QL (fun r G1 S1 => G1 = G ∧ Q r S1)) := MT.ofJ (by decide +kernel) (fun b => [(0, .ref (b + v0)), (1, .int v1), (2, .int v2), (3, .int v3), (4, .int v4), (5, .long v5)]) (fun b => rfl) (fun b => Nat.le_of_ble_eq_true rfl) (fun l b D cy p e s m below meth c C hE hn => j_X11_tells C hE t_v0 h)
theorem hd_X11_tells : yX11_tells.cls ≠ "java/lang/invoke/MethodHandle" ∧ yX11_tells.cls ≠ "java/lang/invoke/VarHandle" ∧ (parseMethodDescriptor yX11_tells.desc).map (fun d => d.parameters.length) = some 5 := by decide +kernel
abbrev rm_X11_isBarred : Room := { frames := 6, cells := 0, slots := 0, locals := 143 }
set_option maxHeartbeats 4000000 in
set_option maxRecDepth 100000 in
theorem j_X11_isBarred {p : Program} {l : Launch} {e : Env} {s : State} {m : MethodId} {args : Array Value} {below : List Frame} {meth : Method} {c : Code} {b : Nat} {D : va_G} {cy : Nat → ClassId} {G : Gm} {v0 : Nat} {v1 : Int32} {S : St} {Q : Int32 → St → Prop} (C : CX p s m args meth c b D cy cX11_isBarred RX11 2 (some .boolean)) (hE : s.heap.size + 0 ≤ b + G.2.2) (t_v0 : ok G 10 v0) (h : f_X11_isBarred G v0 v1 Q S) : J p l e rm_X11_isBarred s m args below meth c b D cy 2 (zI b D cy below args s G Q) 0 0 G S 0 [(0, .ref (b + v0)), (1, .int v1)] [] := by
  unfold f_X11_isBarred at h
  refine jB C [(.aload_n 0, 1, 0), (.iconst 3, 1, 3), (.iload_n 1, 1, 0), (.iconst (-1), 1, (-1)), (.aload_n 0, 1, 0), (.iload_n 1, 1, 0)] 6 [(0, .ref (b + v0)), (1, .int v1)] [.int v1, .ref (b + v0), .int (-1), .int v1, .int 3, .ref (b + v0)] (by decide +kernel) rfl rfl ?_
  refine jcV_I C 9 (rest := [.int (-1), .int v1, .int 3, .ref (b + v0)]) (ok_X11_sightOf t_v0 h) (by decide +kernel : decode cX11_isBarred 6 = .ok (.invokevirtual 215, 3)) rfl wd_1386 wd_1388 wp_105 wd_12 wd_1389 ⟨rfl, rfl⟩ hd_X11_sightOf ⟨Nat.le_of_ble_eq_true rfl, Nat.le_of_ble_eq_true rfl⟩ t_v0 kX11 (by decide) rfl rfl rfl (Nat.le_of_ble_eq_true rfl) ⟨Nat.zero_le _, Nat.zero_le _⟩ (fun r2 S1 h => ?_)
  refine jB C [(.lconst 0, 1, 0)] 10 [(0, .ref (b + v0)), (1, .int v1)] [.long 0, .int r2, .int (-1), .int v1, .int 3, .ref (b + v0)] (by decide +kernel) rfl rfl ?_
  refine jcV_L C 13 (rest := []) (ok_X11_tells t_v0 h) (by decide +kernel : decode cX11_isBarred 10 = .ok (.invokevirtual 454, 3)) rfl wd_1401 wd_1403 wp_108 wd_12 wd_1404 ⟨rfl, rfl⟩ hd_X11_tells ⟨Nat.le_of_ble_eq_true rfl, Nat.le_of_ble_eq_true rfl⟩ t_v0 kX11 (by decide) rfl rfl rfl (Nat.le_of_ble_eq_true rfl) ⟨Nat.zero_le _, Nat.zero_le _⟩ (fun r4 S3 h => ?_)
  refine jB C [(.lconst 1, 1, 0), (.lcmp, 1, 0)] 15 [(0, .ref (b + v0)), (1, .int v1)] [.int (lg_cmp r4 1)] (by decide +kernel) rfl rfl ?_
  refine jIf_ne C 18 22 (by decide +kernel : decode cX11_isBarred 15 = .ok (.ifCond .ne 7, 3)) rfl rfl (fun c5 => ?_) (fun c5 => ?_)
  · have h := it2 h c5
    refine jB C [(.iconst 0, 1, 0)] 23 [(0, .ref (b + v0)), (1, .int v1)] [.int 0] (by decide +kernel) rfl rfl ?_
    exact jRetZ C (by decide +kernel : decode cX11_isBarred 23 = .ok (.ireturn, 1)) (Nat.le_refl _) (Nat.le_refl _) (by decide) ⟨rfl, h⟩
  · have h := it1 h c5
    refine jB C [(.iconst 1, 1, 1)] 19 [(0, .ref (b + v0)), (1, .int v1)] [.int 1] (by decide +kernel) rfl rfl ?_
    refine jGoto C 23 (by decide +kernel : decode cX11_isBarred 19 = .ok (.goto 4, 3)) rfl ?_
    exact jRetZ C (by decide +kernel : decode cX11_isBarred 23 = .ok (.ireturn, 1)) (Nat.le_refl _) (Nat.le_refl _) (by decide) ⟨rfl, h⟩
theorem ok_X11_isBarred {G : Gm} {v0 : Nat} {v1 : Int32} {S : St} {Q : Int32 → St → Prop}  (t_v0 : ok G 10 v0) (h : f_X11_isBarred G v0 v1 Q S) : MT yX11_isBarred cX11_isBarred 2 (some .boolean) rm_X11_isBarred 0 0 (fun b => [.ref (b + v0), .int v1]) G S (QI (fun r G1 S1 => G1 = G ∧ Q r S1)) := MT.ofJ (by decide +kernel) (fun b => [(0, .ref (b + v0)), (1, .int v1)]) (fun b => rfl) (fun b => Nat.le_of_ble_eq_true rfl) (fun l b D cy p e s m below meth c C hE hn => j_X11_isBarred C hE t_v0 h)
theorem hd_X11_isBarred : yX11_isBarred.cls ≠ "java/lang/invoke/MethodHandle" ∧ yX11_isBarred.cls ≠ "java/lang/invoke/VarHandle" ∧ (parseMethodDescriptor yX11_isBarred.desc).map (fun d => d.parameters.length) = some 1 := by decide +kernel
abbrev rm_X11_within : Room := { frames := 0, cells := 0, slots := 0, locals := 0 }
set_option maxHeartbeats 4000000 in
set_option maxRecDepth 100000 in
theorem j_X11_within {p : Program} {l : Launch} {e : Env} {s : State} {m : MethodId} {args : Array Value} {below : List Frame} {meth : Method} {c : Code} {b : Nat} {D : va_G} {cy : Nat → ClassId} {G : Gm} {v0 : Int64} {v2 : Int32} {v3 : Int32} {S : St} {Q : Int32 → St → Prop} (C : CX p s m args meth c b D cy cX11_within RX11 4 (some .int)) (hE : s.heap.size + 0 ≤ b + G.2.2) (h : f_X11_within G v0 v2 v3 Q S) : J p l e rm_X11_within s m args below meth c b D cy 4 (zI b D cy below args s G Q) 0 0 G S 0 [(0, .long v0), (2, .int v2), (3, .int v3)] [] := by
  unfold f_X11_within at h
  refine jB C [(.lload_n 0, 1, 0), (.iload_n 2, 1, 0), (.i2l, 1, 0), (.lcmp, 1, 0)] 4 [(0, .long v0), (2, .int v2), (3, .int v3)] [.int (lg_cmp v0 v2.toInt64)] (by decide +kernel) rfl rfl ?_
  refine jIf_ge C 7 11 (by decide +kernel : decode cX11_within 4 = .ok (.ifCond .ge 7, 3)) rfl rfl (fun c1 => ?_) (fun c1 => ?_)
  · have h := it1 h c1
    refine jB C [(.lload_n 0, 1, 0), (.iload_n 3, 1, 0), (.i2l, 1, 0), (.lcmp, 1, 0)] 15 [(0, .long v0), (2, .int v2), (3, .int v3)] [.int (lg_cmp v0 v3.toInt64)] (by decide +kernel) rfl rfl ?_
    refine jIf_le C 18 22 (by decide +kernel : decode cX11_within 15 = .ok (.ifCond .le 7, 3)) rfl rfl (fun c2 => ?_) (fun c2 => ?_)
    · have h := it1 h c2
      refine jB C [(.lload_n 0, 1, 0), (.l2i, 1, 0)] 24 [(0, .long v0), (2, .int v2), (3, .int v3)] [.int v0.toInt32] (by decide +kernel) rfl rfl ?_
      exact jRetI C (by decide +kernel : decode cX11_within 24 = .ok (.ireturn, 1)) (Nat.le_refl _) (Nat.le_refl _) ⟨rfl, h⟩
    · have h := it2 h c2
      refine jB C [(.iload_n 3, 1, 0)] 19 [(0, .long v0), (2, .int v2), (3, .int v3)] [.int v3] (by decide +kernel) rfl rfl ?_
      refine jGoto C 24 (by decide +kernel : decode cX11_within 19 = .ok (.goto 5, 3)) rfl ?_
      exact jRetI C (by decide +kernel : decode cX11_within 24 = .ok (.ireturn, 1)) (Nat.le_refl _) (Nat.le_refl _) ⟨rfl, h⟩
  · have h := it2 h c1
    refine jB C [(.iload_n 2, 1, 0)] 8 [(0, .long v0), (2, .int v2), (3, .int v3)] [.int v2] (by decide +kernel) rfl rfl ?_
    refine jGoto C 24 (by decide +kernel : decode cX11_within 8 = .ok (.goto 16, 3)) rfl ?_
    exact jRetI C (by decide +kernel : decode cX11_within 24 = .ok (.ireturn, 1)) (Nat.le_refl _) (Nat.le_refl _) ⟨rfl, h⟩
theorem ok_X11_within {G : Gm} {v0 : Int64} {v2 : Int32} {v3 : Int32} {S : St} {Q : Int32 → St → Prop}  (h : f_X11_within G v0 v2 v3 Q S) : MT yX11_within cX11_within 4 (some .int) rm_X11_within 0 0 (fun b => [.long v0, .int v2, .int v3]) G S (QI (fun r G1 S1 => G1 = G ∧ Q r S1)) := MT.ofJ (by decide +kernel) (fun b => [(0, .long v0), (2, .int v2), (3, .int v3)]) (fun b => rfl) (fun b => Nat.le_of_ble_eq_true rfl) (fun l b D cy p e s m below meth c C hE hn => j_X11_within C hE h)
theorem hd_X11_within : yX11_within.cls ≠ "java/lang/invoke/MethodHandle" ∧ yX11_within.cls ≠ "java/lang/invoke/VarHandle" ∧ (parseMethodDescriptor yX11_within.desc).map (fun d => d.parameters.length) = some 3 := by decide +kernel
abbrev rm_X11_grindsOf : Room := { frames := 6, cells := 0, slots := 0, locals := 143 }
set_option maxHeartbeats 4000000 in
set_option maxRecDepth 100000 in
theorem j_X11_grindsOf_30 {p : Program} {l : Launch} {e : Env} {s : State} {m : MethodId} {args : Array Value} {below : List Frame} {meth : Method} {c : Code} {b : Nat} {D : va_G} {cy : Nat → ClassId} {G : Gm} {u0 : Int64} {u1 : Int32} {u2 : Int32} {u3 : Int32} {u4 : Int32} {u5 : Nat} {S : St} {Q : Int32 → St → Prop} (C : CX p s m args meth c b D cy cX11_grindsOf RX11 3 (some .int)) (hE : s.heap.size + 0 ≤ b + G.2.2) (t_u5 : ok G 10 u5) (h : f_X11_grindsOf_30 G u0 u1 u2 u3 u4 u5 Q S) : J p l e rm_X11_grindsOf s m args below meth c b D cy 3 (zI b D cy below args s G Q) 0 0 G S 30 [] [.long u0, .int u1, .int u2, .int u3, .int u4, .ref (b + u5)] := by
  unfold f_X11_grindsOf_30 at h
  refine jcV_L C 33 (rest := []) (ok_X11_tells t_u5 h) (by decide +kernel : decode cX11_grindsOf 30 = .ok (.invokevirtual 454, 3)) rfl wd_1401 wd_1403 wp_108 wd_12 wd_1404 ⟨rfl, rfl⟩ hd_X11_tells ⟨Nat.le_of_ble_eq_true rfl, Nat.le_of_ble_eq_true rfl⟩ t_u5 kX11 (by decide) rfl rfl rfl (Nat.le_of_ble_eq_true rfl) ⟨Nat.zero_le _, Nat.zero_le _⟩ (fun r2 S1 h => ?_)
  refine jB C [(.iconst 0, 1, 0), (.bipush 7, 2, 7)] 36 [] [.int 7, .int 0, .long r2] (by decide +kernel) rfl rfl ?_
  refine jcS_I C 39 (rest := []) (ok_X11_within h) (by decide +kernel : decode cX11_grindsOf 36 = .ok (.invokestatic 458, 3)) rfl wd_1427 wd_1428 wd_12 wd_1429 ⟨rfl, rfl⟩ hd_X11_within ⟨Nat.le_of_ble_eq_true rfl, Nat.le_of_ble_eq_true rfl⟩ rfl rfl (Nat.le_of_ble_eq_true rfl) ⟨Nat.zero_le _, Nat.zero_le _⟩ (fun r4 S3 h => ?_)
  exact jRetI C (by decide +kernel : decode cX11_grindsOf 39 = .ok (.ireturn, 1)) (Nat.le_refl _) (Nat.le_refl _) ⟨rfl, h⟩
set_option maxHeartbeats 4000000 in
set_option maxRecDepth 100000 in
theorem j_X11_grindsOf {p : Program} {l : Launch} {e : Env} {s : State} {m : MethodId} {args : Array Value} {below : List Frame} {meth : Method} {c : Code} {b : Nat} {D : va_G} {cy : Nat → ClassId} {G : Gm} {v0 : Nat} {v1 : Int32} {v2 : Int32} {S : St} {Q : Int32 → St → Prop} (C : CX p s m args meth c b D cy cX11_grindsOf RX11 3 (some .int)) (hE : s.heap.size + 0 ≤ b + G.2.2) (t_v0 : ok G 10 v0) (h : f_X11_grindsOf G v0 v1 v2 Q S) : J p l e rm_X11_grindsOf s m args below meth c b D cy 3 (zI b D cy below args s G Q) 0 0 G S 0 [(0, .ref (b + v0)), (1, .int v1), (2, .int v2)] [] := by
  unfold f_X11_grindsOf at h
  refine jB C [(.aload_n 0, 1, 0), (.iconst 0, 1, 0), (.iload_n 1, 1, 0), (.iload_n 2, 1, 0), (.iconst (-1), 1, (-1)), (.aload_n 0, 1, 0)] 6 [(0, .ref (b + v0)), (1, .int v1), (2, .int v2)] [.ref (b + v0), .int (-1), .int v2, .int v1, .int 0, .ref (b + v0)] (by decide +kernel) rfl rfl ?_
  obtain ⟨a1, e_a1, h⟩ := h
  refine jGetR C 9 (by decide +kernel : decode cX11_grindsOf 6 = .ok (.getfield 16, 3)) rfl t_v0 kX11 4 (by decide) rfl rfl (by decide) wd_1158 e_a1 rfl (fun t_a1 => ?_)
  refine jB C [(.bipush 8, 2, 8), (.iconst 4, 1, 4), (.iload_n 1, 1, 0), (.imul, 1, 0), (.iadd, 1, 0), (.iload_n 2, 1, 0), (.iadd, 1, 0)] 17 [(0, .ref (b + v0)), (1, .int v1), (2, .int v2)] [.int ((8 + (4 * v1)) + v2), .ref (b + a1), .int (-1), .int v2, .int v1, .int 0, .ref (b + v0)] (by decide +kernel) rfl rfl ?_
  obtain ⟨y2, h⟩ := h
  refine jIald C 18 (by decide +kernel : decode cX11_grindsOf 17 = .ok (.iaload, 1)) rfl t_a1 y2 ?_
  refine jB C [(.iconst 4, 1, 4)] 19 [(0, .ref (b + v0)), (1, .int v1), (2, .int v2)] [.int 4, .int (S.1 a1 ((8 + (4 * v1)) + v2).toNatClampNeg), .int (-1), .int v2, .int v1, .int 0, .ref (b + v0)] (by decide +kernel) rfl rfl ?_
  refine jIcmp_ge C 22 26 (by decide +kernel : decode cX11_grindsOf 19 = .ok (.if_icmp .ge 7, 3)) rfl rfl (fun c3 => ?_) (fun c3 => ?_)
  · have h := it1 h c3
    refine jB C [(.iload_n 2, 1, 0), (.i2l, 1, 0), (.lconst 1, 1, 0), (.ladd, 1, 0)] 30 [(0, .ref (b + v0)), (1, .int v1), (2, .int v2)] [.long (v2.toInt64 + 1), .int (-1), .int v2, .int v1, .int 0, .ref (b + v0)] (by decide +kernel) rfl rfl ?_
    refine jSub [] rfl ?_
    exact j_X11_grindsOf_30 C hE t_v0 h
  · have h := it2 h c3
    refine jB C [(.lconst 0, 1, 0)] 23 [(0, .ref (b + v0)), (1, .int v1), (2, .int v2)] [.long 0, .int (-1), .int v2, .int v1, .int 0, .ref (b + v0)] (by decide +kernel) rfl rfl ?_
    refine jGoto C 30 (by decide +kernel : decode cX11_grindsOf 23 = .ok (.goto 7, 3)) rfl ?_
    refine jSub [] rfl ?_
    exact j_X11_grindsOf_30 C hE t_v0 h
theorem ok_X11_grindsOf {G : Gm} {v0 : Nat} {v1 : Int32} {v2 : Int32} {S : St} {Q : Int32 → St → Prop}  (t_v0 : ok G 10 v0) (h : f_X11_grindsOf G v0 v1 v2 Q S) : MT yX11_grindsOf cX11_grindsOf 3 (some .int) rm_X11_grindsOf 0 0 (fun b => [.ref (b + v0), .int v1, .int v2]) G S (QI (fun r G1 S1 => G1 = G ∧ Q r S1)) := MT.ofJ (by decide +kernel) (fun b => [(0, .ref (b + v0)), (1, .int v1), (2, .int v2)]) (fun b => rfl) (fun b => Nat.le_of_ble_eq_true rfl) (fun l b D cy p e s m below meth c C hE hn => j_X11_grindsOf C hE t_v0 h)
theorem hd_X11_grindsOf : yX11_grindsOf.cls ≠ "java/lang/invoke/MethodHandle" ∧ yX11_grindsOf.cls ≠ "java/lang/invoke/VarHandle" ∧ (parseMethodDescriptor yX11_grindsOf.desc).map (fun d => d.parameters.length) = some 2 := by decide +kernel
abbrev rm_X11_layGround : Room := { frames := 7, cells := 0, slots := 0, locals := 165 }
set_option maxHeartbeats 4000000 in
set_option maxRecDepth 100000 in
theorem j_X11_layGround_4_n {p : Program} {l : Launch} {e : Env} {s : State} {m : MethodId} {args : Array Value} {below : List Frame} {meth : Method} {c : Code} {b : Nat} {D : va_G} {cy : Nat → ClassId} {G : Gm} {v0 : Nat} {v1 : Int32} {Q : Int32 → St → Prop} (C : CX p s m args meth c b D cy cX11_layGround RX11 4 (some .int)) (hE : s.heap.size + 0 ≤ b + G.2.2) (t_v0 : ok G 10 v0) : ∀ k (v2 : Int32) (v3 : Int32) S, f_X11_layGround_4_n G v0 v1 Q k v2 v3 S → J p l e rm_X11_layGround s m args below meth c b D cy 4 (zI b D cy below args s G Q) 0 0 G S 4 [(0, .ref (b + v0)), (1, .int v1), (2, .int v2), (3, .int v3)] [] := by
  intro k
  induction k with
  | zero => intro v2 v3 S h; exact h.elim
  | succ k ih =>
    intro v2 v3 S h
    unfold f_X11_layGround_4_n at h
    refine jB C [(.iload_n 3, 1, 0), (.iconst 4, 1, 4)] 6 [(0, .ref (b + v0)), (1, .int v1), (2, .int v2), (3, .int v3)] [.int 4, .int v3] (by decide +kernel) rfl rfl ?_
    refine jIcmp_ge C 9 44 (by decide +kernel : decode cX11_layGround 6 = .ok (.if_icmp .ge 38, 3)) rfl rfl (fun c1 => ?_) (fun c1 => ?_)
    · have h := it1 h c1
      refine jB C [(.iload_n 2, 1, 0)] 45 [(0, .ref (b + v0)), (1, .int v1), (2, .int v2), (3, .int v3)] [.int v2] (by decide +kernel) rfl rfl ?_
      exact jRetI C (by decide +kernel : decode cX11_layGround 45 = .ok (.ireturn, 1)) (Nat.le_refl _) (Nat.le_refl _) ⟨rfl, h⟩
    · have h := it2 h c1
      refine jB C [(.aload_n 0, 1, 0)] 10 [(0, .ref (b + v0)), (1, .int v1), (2, .int v2), (3, .int v3)] [.ref (b + v0)] (by decide +kernel) rfl rfl ?_
      obtain ⟨a2, e_a2, h⟩ := h
      refine jGetR C 13 (by decide +kernel : decode cX11_layGround 10 = .ok (.getfield 114, 3)) rfl t_v0 kX11 43 (by decide) rfl rfl (by decide) wd_1197 e_a2 rfl (fun t_a2 => ?_)
      refine jB C [(.iload_n 3, 1, 0), (.aload_n 0, 1, 0), (.iload_n 1, 1, 0), (.iload_n 3, 1, 0)] 17 [(0, .ref (b + v0)), (1, .int v1), (2, .int v2), (3, .int v3)] [.int v3, .int v1, .ref (b + v0), .int v3, .ref (b + a2)] (by decide +kernel) rfl rfl ?_
      refine jcV_I C 20 (rest := [.int v3, .ref (b + a2)]) (ok_X11_grindsOf t_v0 h) (by decide +kernel : decode cX11_layGround 17 = .ok (.invokevirtual 227, 3)) rfl wd_1441 wd_1443 wp_114 wd_12 wd_1444 ⟨rfl, rfl⟩ hd_X11_grindsOf ⟨Nat.le_of_ble_eq_true rfl, Nat.le_of_ble_eq_true rfl⟩ t_v0 kX11 (by decide) rfl rfl rfl (Nat.le_of_ble_eq_true rfl) ⟨Nat.zero_le _, Nat.zero_le _⟩ (fun r4 S3 h => ?_)
      obtain ⟨y5, h⟩ := h
      refine jIast C 21 (by decide +kernel : decode cX11_layGround 20 = .ok (.iastore, 1)) rfl hE t_a2 y5 ?_
      refine jTopS (fun S6 e_S6 => ?_)
      have h := h S6 e_S6
      refine jB C [(.iload_n 2, 1, 0), (.aload_n 0, 1, 0)] 23 [(0, .ref (b + v0)), (1, .int v1), (2, .int v2), (3, .int v3)] [.ref (b + v0), .int v2] (by decide +kernel) rfl rfl ?_
      obtain ⟨a7, e_a7, h⟩ := h
      refine jGetR C 26 (by decide +kernel : decode cX11_layGround 23 = .ok (.getfield 114, 3)) rfl t_v0 kX11 43 (by decide) rfl rfl (by decide) wd_1197 e_a7 rfl (fun t_a7 => ?_)
      refine jB C [(.iload_n 3, 1, 0)] 27 [(0, .ref (b + v0)), (1, .int v1), (2, .int v2), (3, .int v3)] [.int v3, .ref (b + a7), .int v2] (by decide +kernel) rfl rfl ?_
      obtain ⟨y8, h⟩ := h
      refine jIald C 28 (by decide +kernel : decode cX11_layGround 27 = .ok (.iaload, 1)) rfl t_a7 y8 ?_
      refine jIf_ne C 31 35 (by decide +kernel : decode cX11_layGround 28 = .ok (.ifCond .ne 7, 3)) rfl rfl (fun c9 => ?_) (fun c9 => ?_)
      · have h := it2 h c9
        refine jB C [(.iconst 1, 1, 1), (.iadd, 1, 0)] 37 [(0, .ref (b + v0)), (1, .int v1), (2, .int v2), (3, .int v3)] [.int (v2 + 1)] (by decide +kernel) rfl rfl ?_
        refine jTopI (fun x10 e_x10 => ?_)
        have h := h x10 e_x10
        refine jB C [(.istore_n 2, 1, 0), (.iinc 3 1, 3, 1)] 41 [(3, .int (v3 + 1)), (2, .int x10), (0, .ref (b + v0)), (1, .int v1)] [] (by decide +kernel) rfl rfl ?_
        refine jGoto C 4 (by decide +kernel : decode cX11_layGround 41 = .ok (.goto (-37), 3)) rfl ?_
        refine jSub [2, 3, 1, 0] rfl ?_
        exact ih x10 (v3 + 1) S6 h
      · have h := it1 h c9
        refine jB C [(.iconst 0, 1, 0)] 32 [(0, .ref (b + v0)), (1, .int v1), (2, .int v2), (3, .int v3)] [.int 0, .int v2] (by decide +kernel) rfl rfl ?_
        refine jGoto C 36 (by decide +kernel : decode cX11_layGround 32 = .ok (.goto 4, 3)) rfl ?_
        refine jB C [(.iadd, 1, 0)] 37 [(0, .ref (b + v0)), (1, .int v1), (2, .int v2), (3, .int v3)] [.int (v2 + 0)] (by decide +kernel) rfl rfl ?_
        refine jTopI (fun x11 e_x11 => ?_)
        have h := h x11 e_x11
        refine jB C [(.istore_n 2, 1, 0), (.iinc 3 1, 3, 1)] 41 [(3, .int (v3 + 1)), (2, .int x11), (0, .ref (b + v0)), (1, .int v1)] [] (by decide +kernel) rfl rfl ?_
        refine jGoto C 4 (by decide +kernel : decode cX11_layGround 41 = .ok (.goto (-37), 3)) rfl ?_
        refine jSub [2, 3, 1, 0] rfl ?_
        exact ih x11 (v3 + 1) S6 h
theorem j_X11_layGround_4 {p : Program} {l : Launch} {e : Env} {s : State} {m : MethodId} {args : Array Value} {below : List Frame} {meth : Method} {c : Code} {b : Nat} {D : va_G} {cy : Nat → ClassId} {G : Gm} {v0 : Nat} {v1 : Int32} {v2 : Int32} {v3 : Int32} {S : St} {Q : Int32 → St → Prop} (C : CX p s m args meth c b D cy cX11_layGround RX11 4 (some .int)) (hE : s.heap.size + 0 ≤ b + G.2.2) (t_v0 : ok G 10 v0) (h : f_X11_layGround_4 G v0 v1 Q v2 v3 S) : J p l e rm_X11_layGround s m args below meth c b D cy 4 (zI b D cy below args s G Q) 0 0 G S 4 [(0, .ref (b + v0)), (1, .int v1), (2, .int v2), (3, .int v3)] [] := by
  obtain ⟨k, h⟩ := h
  exact j_X11_layGround_4_n C hE t_v0 k v2 v3 S h
set_option maxHeartbeats 4000000 in
set_option maxRecDepth 100000 in
theorem j_X11_layGround {p : Program} {l : Launch} {e : Env} {s : State} {m : MethodId} {args : Array Value} {below : List Frame} {meth : Method} {c : Code} {b : Nat} {D : va_G} {cy : Nat → ClassId} {G : Gm} {v0 : Nat} {v1 : Int32} {S : St} {Q : Int32 → St → Prop} (C : CX p s m args meth c b D cy cX11_layGround RX11 4 (some .int)) (hE : s.heap.size + 0 ≤ b + G.2.2) (t_v0 : ok G 10 v0) (h : f_X11_layGround G v0 v1 Q S) : J p l e rm_X11_layGround s m args below meth c b D cy 4 (zI b D cy below args s G Q) 0 0 G S 0 [(0, .ref (b + v0)), (1, .int v1)] [] := by
  unfold f_X11_layGround at h
  refine jB C [(.iconst 0, 1, 0), (.istore_n 2, 1, 0), (.iconst 0, 1, 0), (.istore_n 3, 1, 0)] 4 [(3, .int 0), (2, .int 0), (0, .ref (b + v0)), (1, .int v1)] [] (by decide +kernel) rfl rfl ?_
  refine jSub [2, 3, 1, 0] rfl ?_
  exact j_X11_layGround_4 C hE t_v0 h
theorem ok_X11_layGround {G : Gm} {v0 : Nat} {v1 : Int32} {S : St} {Q : Int32 → St → Prop}  (t_v0 : ok G 10 v0) (h : f_X11_layGround G v0 v1 Q S) : MT yX11_layGround cX11_layGround 4 (some .int) rm_X11_layGround 0 0 (fun b => [.ref (b + v0), .int v1]) G S (QI (fun r G1 S1 => G1 = G ∧ Q r S1)) := MT.ofJ (by decide +kernel) (fun b => [(0, .ref (b + v0)), (1, .int v1)]) (fun b => rfl) (fun b => Nat.le_of_ble_eq_true rfl) (fun l b D cy p e s m below meth c C hE hn => j_X11_layGround C hE t_v0 h)
theorem hd_X11_layGround : yX11_layGround.cls ≠ "java/lang/invoke/MethodHandle" ∧ yX11_layGround.cls ≠ "java/lang/invoke/VarHandle" ∧ (parseMethodDescriptor yX11_layGround.desc).map (fun d => d.parameters.length) = some 1 := by decide +kernel
abbrev rm_X11_grindIt : Room := { frames := 8, cells := 0, slots := 0, locals := 188 }
set_option maxHeartbeats 4000000 in
set_option maxRecDepth 100000 in
theorem j_X11_grindIt_52_n {p : Program} {l : Launch} {e : Env} {s : State} {m : MethodId} {args : Array Value} {below : List Frame} {meth : Method} {c : Code} {b : Nat} {D : va_G} {cy : Nat → ClassId} {G : Gm} {v0 : Nat} {v2 : Int32} {Q : Int32 → St → Prop} (C : CX p s m args meth c b D cy cX11_grindIt RX11 5 (some .int)) (hE : s.heap.size + 0 ≤ b + G.2.2) (t_v0 : ok G 10 v0) : ∀ k (v3 : Int32) (v4 : Int32) S, f_X11_grindIt_52_n G v0 v2 Q k v3 v4 S → J p l e rm_X11_grindIt s m args below meth c b D cy 5 (zI b D cy below args s G Q) 0 0 G S 52 [(0, .ref (b + v0)), (2, .int v2), (3, .int v3), (4, .int v4)] [] := by
  intro k
  induction k with
  | zero => intro v3 v4 S h; exact h.elim
  | succ k ih =>
    intro v3 v4 S h
    unfold f_X11_grindIt_52_n at h
    refine jB C [(.iload 4, 2, 0), (.iconst 4, 1, 4)] 55 [(0, .ref (b + v0)), (2, .int v2), (3, .int v3), (4, .int v4)] [.int 4, .int v4] (by decide +kernel) rfl rfl ?_
    refine jIcmp_ge C 58 90 (by decide +kernel : decode cX11_grindIt 55 = .ok (.if_icmp .ge 35, 3)) rfl rfl (fun c1 => ?_) (fun c1 => ?_)
    · have h := it1 h c1
      refine jB C [(.iload_n 2, 1, 0)] 91 [(0, .ref (b + v0)), (2, .int v2), (3, .int v3), (4, .int v4)] [.int v2] (by decide +kernel) rfl rfl ?_
      exact jRetI C (by decide +kernel : decode cX11_grindIt 91 = .ok (.ireturn, 1)) (Nat.le_refl _) (Nat.le_refl _) ⟨rfl, h⟩
    · have h := it2 h c1
      refine jB C [(.aload_n 0, 1, 0)] 59 [(0, .ref (b + v0)), (2, .int v2), (3, .int v3), (4, .int v4)] [.ref (b + v0)] (by decide +kernel) rfl rfl ?_
      obtain ⟨a2, e_a2, h⟩ := h
      refine jGetR C 62 (by decide +kernel : decode cX11_grindIt 59 = .ok (.getfield 114, 3)) rfl t_v0 kX11 43 (by decide) rfl rfl (by decide) wd_1197 e_a2 rfl (fun t_a2 => ?_)
      refine jB C [(.iload 4, 2, 0)] 64 [(0, .ref (b + v0)), (2, .int v2), (3, .int v3), (4, .int v4)] [.int v4, .ref (b + a2)] (by decide +kernel) rfl rfl ?_
      obtain ⟨y3, h⟩ := h
      refine jIald C 65 (by decide +kernel : decode cX11_grindIt 64 = .ok (.iaload, 1)) rfl t_a2 y3 ?_
      refine jIf_eq C 68 84 (by decide +kernel : decode cX11_grindIt 65 = .ok (.ifCond .eq 19, 3)) rfl rfl (fun c4 => ?_) (fun c4 => ?_)
      · have h := it1 h c4
        refine jB C [(.iinc 4 1, 3, 1)] 87 [(4, .int (v4 + 1)), (0, .ref (b + v0)), (2, .int v2), (3, .int v3)] [] (by decide +kernel) rfl rfl ?_
        refine jGoto C 52 (by decide +kernel : decode cX11_grindIt 87 = .ok (.goto (-35), 3)) rfl ?_
        refine jSub [1, 2, 3, 0] rfl ?_
        exact ih v3 (v4 + 1) S h
      · have h := it2 h c4
        refine jB C [(.aload_n 0, 1, 0)] 69 [(0, .ref (b + v0)), (2, .int v2), (3, .int v3), (4, .int v4)] [.ref (b + v0)] (by decide +kernel) rfl rfl ?_
        obtain ⟨a5, e_a5, h⟩ := h
        refine jGetR C 72 (by decide +kernel : decode cX11_grindIt 69 = .ok (.getfield 16, 3)) rfl t_v0 kX11 4 (by decide) rfl rfl (by decide) wd_1158 e_a5 rfl (fun t_a5 => ?_)
        refine jB C [(.iload_n 3, 1, 0), (.aload_n 0, 1, 0)] 74 [(0, .ref (b + v0)), (2, .int v2), (3, .int v3), (4, .int v4)] [.ref (b + v0), .int v3, .ref (b + a5)] (by decide +kernel) rfl rfl ?_
        obtain ⟨a6, e_a6, h⟩ := h
        refine jGetR C 77 (by decide +kernel : decode cX11_grindIt 74 = .ok (.getfield 114, 3)) rfl t_v0 kX11 43 (by decide) rfl rfl (by decide) wd_1197 e_a6 rfl (fun t_a6 => ?_)
        refine jB C [(.iload 4, 2, 0)] 79 [(0, .ref (b + v0)), (2, .int v2), (3, .int v3), (4, .int v4)] [.int v4, .ref (b + a6), .int v3, .ref (b + a5)] (by decide +kernel) rfl rfl ?_
        obtain ⟨y7, h⟩ := h
        refine jIald C 80 (by decide +kernel : decode cX11_grindIt 79 = .ok (.iaload, 1)) rfl t_a6 y7 ?_
        obtain ⟨y8, h⟩ := h
        refine jIast C 81 (by decide +kernel : decode cX11_grindIt 80 = .ok (.iastore, 1)) rfl hE t_a5 y8 ?_
        refine jTopS (fun S9 e_S9 => ?_)
        have h := h S9 e_S9
        refine jB C [(.iinc 3 1, 3, 1), (.iinc 4 1, 3, 1)] 87 [(4, .int (v4 + 1)), (3, .int (v3 + 1)), (0, .ref (b + v0)), (2, .int v2)] [] (by decide +kernel) rfl rfl ?_
        refine jGoto C 52 (by decide +kernel : decode cX11_grindIt 87 = .ok (.goto (-35), 3)) rfl ?_
        refine jSub [2, 3, 1, 0] rfl ?_
        exact ih (v3 + 1) (v4 + 1) S9 h
theorem j_X11_grindIt_52 {p : Program} {l : Launch} {e : Env} {s : State} {m : MethodId} {args : Array Value} {below : List Frame} {meth : Method} {c : Code} {b : Nat} {D : va_G} {cy : Nat → ClassId} {G : Gm} {v0 : Nat} {v2 : Int32} {v3 : Int32} {v4 : Int32} {S : St} {Q : Int32 → St → Prop} (C : CX p s m args meth c b D cy cX11_grindIt RX11 5 (some .int)) (hE : s.heap.size + 0 ≤ b + G.2.2) (t_v0 : ok G 10 v0) (h : f_X11_grindIt_52 G v0 v2 Q v3 v4 S) : J p l e rm_X11_grindIt s m args below meth c b D cy 5 (zI b D cy below args s G Q) 0 0 G S 52 [(0, .ref (b + v0)), (2, .int v2), (3, .int v3), (4, .int v4)] [] := by
  obtain ⟨k, h⟩ := h
  exact j_X11_grindIt_52_n C hE t_v0 k v3 v4 S h
set_option maxHeartbeats 4000000 in
set_option maxRecDepth 100000 in
theorem j_X11_grindIt_27_n {p : Program} {l : Launch} {e : Env} {s : State} {m : MethodId} {args : Array Value} {below : List Frame} {meth : Method} {c : Code} {b : Nat} {D : va_G} {cy : Nat → ClassId} {G : Gm} {v0 : Nat} {v2 : Int32} {v3 : Int32} {Q : Int32 → St → Prop} (C : CX p s m args meth c b D cy cX11_grindIt RX11 5 (some .int)) (hE : s.heap.size + 0 ≤ b + G.2.2) (t_v0 : ok G 10 v0) : ∀ k (v4 : Int32) S, f_X11_grindIt_27_n G v0 v2 v3 Q k v4 S → J p l e rm_X11_grindIt s m args below meth c b D cy 5 (zI b D cy below args s G Q) 0 0 G S 27 [(0, .ref (b + v0)), (2, .int v2), (3, .int v3), (4, .int v4)] [] := by
  intro k
  induction k with
  | zero => intro v4 S h; exact h.elim
  | succ k ih =>
    intro v4 S h
    unfold f_X11_grindIt_27_n at h
    refine jB C [(.iload 4, 2, 0), (.iconst 4, 1, 4)] 30 [(0, .ref (b + v0)), (2, .int v2), (3, .int v3), (4, .int v4)] [.int 4, .int v4] (by decide +kernel) rfl rfl ?_
    refine jIcmp_ge C 33 49 (by decide +kernel : decode cX11_grindIt 30 = .ok (.if_icmp .ge 19, 3)) rfl rfl (fun c1 => ?_) (fun c1 => ?_)
    · have h := it1 h c1
      refine jB C [(.iconst 0, 1, 0), (.istore 4, 2, 0)] 52 [(4, .int 0), (0, .ref (b + v0)), (2, .int v2), (3, .int v3)] [] (by decide +kernel) rfl rfl ?_
      refine jSub [1, 2, 3, 0] rfl ?_
      exact j_X11_grindIt_52 C hE t_v0 h
    · have h := it2 h c1
      refine jB C [(.aload_n 0, 1, 0)] 34 [(0, .ref (b + v0)), (2, .int v2), (3, .int v3), (4, .int v4)] [.ref (b + v0)] (by decide +kernel) rfl rfl ?_
      obtain ⟨a2, e_a2, h⟩ := h
      refine jGetR C 37 (by decide +kernel : decode cX11_grindIt 34 = .ok (.getfield 16, 3)) rfl t_v0 kX11 4 (by decide) rfl rfl (by decide) wd_1158 e_a2 rfl (fun t_a2 => ?_)
      refine jB C [(.iload_n 3, 1, 0), (.iload 4, 2, 0), (.iadd, 1, 0), (.iconst 0, 1, 0)] 42 [(0, .ref (b + v0)), (2, .int v2), (3, .int v3), (4, .int v4)] [.int 0, .int (v3 + v4), .ref (b + a2)] (by decide +kernel) rfl rfl ?_
      obtain ⟨y3, h⟩ := h
      refine jIast C 43 (by decide +kernel : decode cX11_grindIt 42 = .ok (.iastore, 1)) rfl hE t_a2 y3 ?_
      refine jTopS (fun S4 e_S4 => ?_)
      have h := h S4 e_S4
      refine jB C [(.iinc 4 1, 3, 1)] 46 [(4, .int (v4 + 1)), (0, .ref (b + v0)), (2, .int v2), (3, .int v3)] [] (by decide +kernel) rfl rfl ?_
      refine jGoto C 27 (by decide +kernel : decode cX11_grindIt 46 = .ok (.goto (-19), 3)) rfl ?_
      refine jSub [1, 2, 3, 0] rfl ?_
      exact ih (v4 + 1) S4 h
theorem j_X11_grindIt_27 {p : Program} {l : Launch} {e : Env} {s : State} {m : MethodId} {args : Array Value} {below : List Frame} {meth : Method} {c : Code} {b : Nat} {D : va_G} {cy : Nat → ClassId} {G : Gm} {v0 : Nat} {v2 : Int32} {v3 : Int32} {v4 : Int32} {S : St} {Q : Int32 → St → Prop} (C : CX p s m args meth c b D cy cX11_grindIt RX11 5 (some .int)) (hE : s.heap.size + 0 ≤ b + G.2.2) (t_v0 : ok G 10 v0) (h : f_X11_grindIt_27 G v0 v2 v3 Q v4 S) : J p l e rm_X11_grindIt s m args below meth c b D cy 5 (zI b D cy below args s G Q) 0 0 G S 27 [(0, .ref (b + v0)), (2, .int v2), (3, .int v3), (4, .int v4)] [] := by
  obtain ⟨k, h⟩ := h
  exact j_X11_grindIt_27_n C hE t_v0 k v4 S h
set_option maxHeartbeats 4000000 in
set_option maxRecDepth 100000 in
theorem j_X11_grindIt {p : Program} {l : Launch} {e : Env} {s : State} {m : MethodId} {args : Array Value} {below : List Frame} {meth : Method} {c : Code} {b : Nat} {D : va_G} {cy : Nat → ClassId} {G : Gm} {v0 : Nat} {v1 : Int32} {S : St} {Q : Int32 → St → Prop} (C : CX p s m args meth c b D cy cX11_grindIt RX11 5 (some .int)) (hE : s.heap.size + 0 ≤ b + G.2.2) (t_v0 : ok G 10 v0) (h : f_X11_grindIt G v0 v1 Q S) : J p l e rm_X11_grindIt s m args below meth c b D cy 5 (zI b D cy below args s G Q) 0 0 G S 0 [(0, .ref (b + v0)), (1, .int v1)] [] := by
  unfold f_X11_grindIt at h
  refine jB C [(.aload_n 0, 1, 0), (.iload_n 1, 1, 0)] 2 [(0, .ref (b + v0)), (1, .int v1)] [.int v1, .ref (b + v0)] (by decide +kernel) rfl rfl ?_
  refine jcV_I C 5 (rest := []) (ok_X11_layGround t_v0 h) (by decide +kernel : decode cX11_grindIt 2 = .ok (.invokevirtual 471, 3)) rfl wd_1667 wd_1669 wp_148 wd_12 wd_1670 ⟨rfl, rfl⟩ hd_X11_layGround ⟨Nat.le_of_ble_eq_true rfl, Nat.le_of_ble_eq_true rfl⟩ t_v0 kX11 (by decide) rfl rfl rfl (Nat.le_of_ble_eq_true rfl) ⟨Nat.zero_le _, Nat.zero_le _⟩ (fun r2 S1 h => ?_)
  refine jB C [(.istore_n 2, 1, 0), (.bipush 32, 2, 32), (.iconst 5, 1, 5), (.iload_n 1, 1, 0), (.imul, 1, 0), (.iadd, 1, 0), (.iconst 1, 1, 1), (.iadd, 1, 0)] 14 [(2, .int r2), (0, .ref (b + v0)), (1, .int v1)] [.int ((32 + (5 * v1)) + 1)] (by decide +kernel) rfl rfl ?_
  refine jTopI (fun x3 e_x3 => ?_)
  have h := h x3 e_x3
  refine jB C [(.istore_n 3, 1, 0), (.aload_n 0, 1, 0)] 16 [(3, .int x3), (2, .int r2), (0, .ref (b + v0)), (1, .int v1)] [.ref (b + v0)] (by decide +kernel) rfl rfl ?_
  obtain ⟨a4, e_a4, h⟩ := h
  refine jGetR C 19 (by decide +kernel : decode cX11_grindIt 16 = .ok (.getfield 16, 3)) rfl t_v0 kX11 4 (by decide) rfl rfl (by decide) wd_1158 e_a4 rfl (fun t_a4 => ?_)
  refine jB C [(.iload_n 3, 1, 0), (.iconst 1, 1, 1), (.isub, 1, 0), (.iload_n 2, 1, 0)] 23 [(3, .int x3), (2, .int r2), (0, .ref (b + v0)), (1, .int v1)] [.int r2, .int (x3 - 1), .ref (b + a4)] (by decide +kernel) rfl rfl ?_
  obtain ⟨y5, h⟩ := h
  refine jIast C 24 (by decide +kernel : decode cX11_grindIt 23 = .ok (.iastore, 1)) rfl hE t_a4 y5 ?_
  refine jTopS (fun S6 e_S6 => ?_)
  have h := h S6 e_S6
  refine jB C [(.iconst 0, 1, 0), (.istore 4, 2, 0)] 27 [(4, .int 0), (3, .int x3), (2, .int r2), (0, .ref (b + v0)), (1, .int v1)] [] (by decide +kernel) rfl rfl ?_
  refine jSub [3, 2, 1, 0] rfl ?_
  exact j_X11_grindIt_27 C hE t_v0 h
theorem ok_X11_grindIt {G : Gm} {v0 : Nat} {v1 : Int32} {S : St} {Q : Int32 → St → Prop}  (t_v0 : ok G 10 v0) (h : f_X11_grindIt G v0 v1 Q S) : MT yX11_grindIt cX11_grindIt 5 (some .int) rm_X11_grindIt 0 0 (fun b => [.ref (b + v0), .int v1]) G S (QI (fun r G1 S1 => G1 = G ∧ Q r S1)) := MT.ofJ (by decide +kernel) (fun b => [(0, .ref (b + v0)), (1, .int v1)]) (fun b => rfl) (fun b => Nat.le_of_ble_eq_true rfl) (fun l b D cy p e s m below meth c C hE hn => j_X11_grindIt C hE t_v0 h)
theorem hd_X11_grindIt : yX11_grindIt.cls ≠ "java/lang/invoke/MethodHandle" ∧ yX11_grindIt.cls ≠ "java/lang/invoke/VarHandle" ∧ (parseMethodDescriptor yX11_grindIt.desc).map (fun d => d.parameters.length) = some 1 := by decide +kernel
abbrev rm_X11_grindNow : Room := { frames := 9, cells := 0, slots := 0, locals := 212 }
set_option maxHeartbeats 4000000 in
set_option maxRecDepth 100000 in
theorem j_X11_grindNow {p : Program} {l : Launch} {e : Env} {s : State} {m : MethodId} {args : Array Value} {below : List Frame} {meth : Method} {c : Code} {b : Nat} {D : va_G} {cy : Nat → ClassId} {G : Gm} {v0 : Nat} {v1 : Int32} {S : St} {Q : Int32 → St → Prop} (C : CX p s m args meth c b D cy cX11_grindNow RX11 2 (some .int)) (hE : s.heap.size + 0 ≤ b + G.2.2) (t_v0 : ok G 10 v0) (h : f_X11_grindNow G v0 v1 Q S) : J p l e rm_X11_grindNow s m args below meth c b D cy 2 (zI b D cy below args s G Q) 0 0 G S 0 [(0, .ref (b + v0)), (1, .int v1)] [] := by
  unfold f_X11_grindNow at h
  refine jB C [(.aload_n 0, 1, 0), (.iload_n 1, 1, 0)] 2 [(0, .ref (b + v0)), (1, .int v1)] [.int v1, .ref (b + v0)] (by decide +kernel) rfl rfl ?_
  refine jcV_I C 5 (rest := []) (ok_X11_isPerson t_v0 h) (by decide +kernel : decode cX11_grindNow 2 = .ok (.invokevirtual 209, 3)) rfl wd_1376 wd_1378 wp_103 wd_12 wd_1379 ⟨rfl, rfl⟩ hd_X11_isPerson ⟨Nat.le_of_ble_eq_true rfl, Nat.le_of_ble_eq_true rfl⟩ t_v0 kX11 (by decide) rfl rfl rfl (Nat.le_of_ble_eq_true rfl) ⟨Nat.zero_le _, Nat.zero_le _⟩ (fun r2 S1 h => ?_)
  refine jIf_ne C 8 11 (by decide +kernel : decode cX11_grindNow 5 = .ok (.ifCond .ne 6, 3)) rfl rfl (fun c3 => ?_) (fun c3 => ?_)
  · have h := it2 h c3
    refine jB C [(.aload_n 0, 1, 0), (.iload_n 1, 1, 0)] 13 [(0, .ref (b + v0)), (1, .int v1)] [.int v1, .ref (b + v0)] (by decide +kernel) rfl rfl ?_
    refine jcV_I C 16 (rest := []) (ok_X11_isBarred t_v0 h) (by decide +kernel : decode cX11_grindNow 13 = .ok (.invokevirtual 221, 3)) rfl wd_1430 wd_1432 wp_113 wd_12 wd_1433 ⟨rfl, rfl⟩ hd_X11_isBarred ⟨Nat.le_of_ble_eq_true rfl, Nat.le_of_ble_eq_true rfl⟩ t_v0 kX11 (by decide) rfl rfl rfl (Nat.le_of_ble_eq_true rfl) ⟨Nat.zero_le _, Nat.zero_le _⟩ (fun r5 S4 h => ?_)
    refine jIf_eq C 19 22 (by decide +kernel : decode cX11_grindNow 16 = .ok (.ifCond .eq 6, 3)) rfl rfl (fun c6 => ?_) (fun c6 => ?_)
    · have h := it1 h c6
      refine jB C [(.aload_n 0, 1, 0), (.iconst 1, 1, 1)] 24 [(0, .ref (b + v0)), (1, .int v1)] [.int 1, .ref (b + v0)] (by decide +kernel) rfl rfl ?_
      refine jcV_V C 27 (rest := []) (ok_X11_remember t_v0 h) (by decide +kernel : decode cX11_grindNow 24 = .ok (.invokevirtual 464, 3)) rfl wd_1647 wd_1649 wp_144 wd_12 wd_1650 ⟨rfl, rfl⟩ hd_X11_remember ⟨Nat.le_of_ble_eq_true rfl, Nat.le_of_ble_eq_true rfl⟩ t_v0 kX11 (by decide) rfl rfl rfl (Nat.le_of_ble_eq_true rfl) ⟨Nat.zero_le _, Nat.zero_le _⟩ (fun S7 h => ?_)
      refine jB C [(.aload_n 0, 1, 0), (.iload_n 1, 1, 0)] 29 [(0, .ref (b + v0)), (1, .int v1)] [.int v1, .ref (b + v0)] (by decide +kernel) rfl rfl ?_
      refine jcV_I C 32 (rest := []) (ok_X11_grindIt t_v0 h) (by decide +kernel : decode cX11_grindNow 29 = .ok (.invokevirtual 474, 3)) rfl wd_1663 wd_1665 wp_147 wd_12 wd_1666 ⟨rfl, rfl⟩ hd_X11_grindIt ⟨Nat.le_of_ble_eq_true rfl, Nat.le_of_ble_eq_true rfl⟩ t_v0 kX11 (by decide) rfl rfl rfl (Nat.le_of_ble_eq_true rfl) ⟨Nat.zero_le _, Nat.zero_le _⟩ (fun r9 S8 h => ?_)
      exact jRetI C (by decide +kernel : decode cX11_grindNow 32 = .ok (.ireturn, 1)) (Nat.le_refl _) (Nat.le_refl _) ⟨rfl, h⟩
    · have h := it2 h c6
      refine jB C [(.bipush (-3), 2, (-3))] 21 [(0, .ref (b + v0)), (1, .int v1)] [.int (-3)] (by decide +kernel) rfl rfl ?_
      exact jRetI C (by decide +kernel : decode cX11_grindNow 21 = .ok (.ireturn, 1)) (Nat.le_refl _) (Nat.le_refl _) ⟨rfl, h⟩
  · have h := it1 h c3
    refine jB C [(.bipush (-2), 2, (-2))] 10 [(0, .ref (b + v0)), (1, .int v1)] [.int (-2)] (by decide +kernel) rfl rfl ?_
    exact jRetI C (by decide +kernel : decode cX11_grindNow 10 = .ok (.ireturn, 1)) (Nat.le_refl _) (Nat.le_refl _) ⟨rfl, h⟩
theorem ok_X11_grindNow {G : Gm} {v0 : Nat} {v1 : Int32} {S : St} {Q : Int32 → St → Prop}  (t_v0 : ok G 10 v0) (h : f_X11_grindNow G v0 v1 Q S) : MT yX11_grindNow cX11_grindNow 2 (some .int) rm_X11_grindNow 0 0 (fun b => [.ref (b + v0), .int v1]) G S (QI (fun r G1 S1 => G1 = G ∧ Q r S1)) := MT.ofJ (by decide +kernel) (fun b => [(0, .ref (b + v0)), (1, .int v1)]) (fun b => rfl) (fun b => Nat.le_of_ble_eq_true rfl) (fun l b D cy p e s m below meth c C hE hn => j_X11_grindNow C hE t_v0 h)
theorem hd_X11_grindNow : yX11_grindNow.cls ≠ "java/lang/invoke/MethodHandle" ∧ yX11_grindNow.cls ≠ "java/lang/invoke/VarHandle" ∧ (parseMethodDescriptor yX11_grindNow.desc).map (fun d => d.parameters.length) = some 1 := by decide +kernel
abbrev rm_X11_putGlass : Room := { frames := 0, cells := 0, slots := 0, locals := 0 }
set_option maxHeartbeats 4000000 in
set_option maxRecDepth 100000 in
theorem j_X11_putGlass_75_n {p : Program} {l : Launch} {e : Env} {s : State} {m : MethodId} {args : Array Value} {below : List Frame} {meth : Method} {c : Code} {b : Nat} {D : va_G} {cy : Nat → ClassId} {G : Gm} {v0 : Nat} {v1 : Int32} {Q : St → Prop} (C : CX p s m args meth c b D cy cX11_putGlass RX11 6 none) (hE : s.heap.size + 0 ≤ b + G.2.2) (t_v0 : ok G 10 v0) : ∀ k (v4 : Int32) (v5 : Int32) S, f_X11_putGlass_75_n G v0 v1 Q k v4 v5 S → J p l e rm_X11_putGlass s m args below meth c b D cy 6 (zV b D cy below args s G Q) 0 0 G S 75 [(0, .ref (b + v0)), (1, .int v1), (4, .int v4), (5, .int v5)] [] := by
  intro k
  induction k with
  | zero => intro v4 v5 S h; exact h.elim
  | succ k ih =>
    intro v4 v5 S h
    unfold f_X11_putGlass_75_n at h
    refine jB C [(.iload 5, 2, 0)] 77 [(0, .ref (b + v0)), (1, .int v1), (4, .int v4), (5, .int v5)] [.int v5] (by decide +kernel) rfl rfl ?_
    refine jIf_lt C 80 116 (by decide +kernel : decode cX11_putGlass 77 = .ok (.ifCond .lt 39, 3)) rfl rfl (fun c1 => ?_) (fun c1 => ?_)
    · have h := it1 h c1
      exact jRetV C (by decide +kernel : decode cX11_putGlass 116 = .ok (.return_, 1)) (Nat.le_refl _) (Nat.le_refl _) ⟨rfl, h⟩
    · have h := it2 h c1
      refine jB C [(.aload_n 0, 1, 0)] 81 [(0, .ref (b + v0)), (1, .int v1), (4, .int v4), (5, .int v5)] [.ref (b + v0)] (by decide +kernel) rfl rfl ?_
      obtain ⟨a2, e_a2, h⟩ := h
      refine jGetR C 84 (by decide +kernel : decode cX11_putGlass 81 = .ok (.getfield 16, 3)) rfl t_v0 kX11 4 (by decide) rfl rfl (by decide) wd_1158 e_a2 rfl (fun t_a2 => ?_)
      refine jB C [(.bipush 32, 2, 32), (.iconst 5, 1, 5), (.iload_n 1, 1, 0), (.imul, 1, 0), (.iadd, 1, 0), (.iconst 1, 1, 1), (.iadd, 1, 0), (.iload 5, 2, 0), (.iadd, 1, 0), (.iload 4, 2, 0), (.bipush 10, 2, 10)] 99 [(0, .ref (b + v0)), (1, .int v1), (4, .int v4), (5, .int v5)] [.int 10, .int v4, .int (((32 + (5 * v1)) + 1) + v5), .ref (b + a2)] (by decide +kernel) rfl rfl ?_
      refine jIrem C 100 (by decide +kernel : decode cX11_putGlass 99 = .ok (.irem, 1)) rfl (by decide) ?_
      refine jB C [(.iconst 1, 1, 1), (.isub, 1, 0)] 102 [(0, .ref (b + v0)), (1, .int v1), (4, .int v4), (5, .int v5)] [.int ((v4 - v4 / 10 * 10) - 1), .int (((32 + (5 * v1)) + 1) + v5), .ref (b + a2)] (by decide +kernel) rfl rfl ?_
      obtain ⟨y3, h⟩ := h
      refine jIast C 103 (by decide +kernel : decode cX11_putGlass 102 = .ok (.iastore, 1)) rfl hE t_a2 y3 ?_
      refine jTopS (fun S4 e_S4 => ?_)
      have h := h S4 e_S4
      refine jB C [(.iload 4, 2, 0), (.bipush 10, 2, 10)] 107 [(0, .ref (b + v0)), (1, .int v1), (4, .int v4), (5, .int v5)] [.int 10, .int v4] (by decide +kernel) rfl rfl ?_
      refine jIdiv C 108 (by decide +kernel : decode cX11_putGlass 107 = .ok (.idiv, 1)) rfl (by decide) ?_
      refine jTopI (fun x5 e_x5 => ?_)
      have h := h x5 e_x5
      refine jB C [(.istore 4, 2, 0), (.iinc 5 (-1), 3, (-1))] 113 [(5, .int (v5 + (-1))), (4, .int x5), (0, .ref (b + v0)), (1, .int v1)] [] (by decide +kernel) rfl rfl ?_
      refine jGoto C 75 (by decide +kernel : decode cX11_putGlass 113 = .ok (.goto (-38), 3)) rfl ?_
      refine jSub [2, 3, 1, 0] rfl ?_
      exact ih x5 (v5 + (-1)) S4 h
theorem j_X11_putGlass_75 {p : Program} {l : Launch} {e : Env} {s : State} {m : MethodId} {args : Array Value} {below : List Frame} {meth : Method} {c : Code} {b : Nat} {D : va_G} {cy : Nat → ClassId} {G : Gm} {v0 : Nat} {v1 : Int32} {v4 : Int32} {v5 : Int32} {S : St} {Q : St → Prop} (C : CX p s m args meth c b D cy cX11_putGlass RX11 6 none) (hE : s.heap.size + 0 ≤ b + G.2.2) (t_v0 : ok G 10 v0) (h : f_X11_putGlass_75 G v0 v1 Q v4 v5 S) : J p l e rm_X11_putGlass s m args below meth c b D cy 6 (zV b D cy below args s G Q) 0 0 G S 75 [(0, .ref (b + v0)), (1, .int v1), (4, .int v4), (5, .int v5)] [] := by
  obtain ⟨k, h⟩ := h
  exact j_X11_putGlass_75_n C hE t_v0 k v4 v5 S h
set_option maxHeartbeats 4000000 in
set_option maxRecDepth 100000 in
theorem j_X11_putGlass_38_n {p : Program} {l : Launch} {e : Env} {s : State} {m : MethodId} {args : Array Value} {below : List Frame} {meth : Method} {c : Code} {b : Nat} {D : va_G} {cy : Nat → ClassId} {G : Gm} {v0 : Nat} {v1 : Int32} {v2 : Int32} {v3 : Int32} {Q : St → Prop} (C : CX p s m args meth c b D cy cX11_putGlass RX11 6 none) (hE : s.heap.size + 0 ≤ b + G.2.2) (t_v0 : ok G 10 v0) : ∀ k (v4 : Int32) S, f_X11_putGlass_38_n G v0 v1 v2 v3 Q k v4 S → J p l e rm_X11_putGlass s m args below meth c b D cy 6 (zV b D cy below args s G Q) 0 0 G S 38 [(0, .ref (b + v0)), (1, .int v1), (2, .int v2), (3, .int v3), (4, .int v4)] [] := by
  intro k
  induction k with
  | zero => intro v4 S h; exact h.elim
  | succ k ih =>
    intro v4 S h
    unfold f_X11_putGlass_38_n at h
    refine jB C [(.iload 4, 2, 0), (.iconst 4, 1, 4)] 41 [(0, .ref (b + v0)), (1, .int v1), (2, .int v2), (3, .int v3), (4, .int v4)] [.int 4, .int v4] (by decide +kernel) rfl rfl ?_
    refine jIcmp_ge C 44 67 (by decide +kernel : decode cX11_putGlass 41 = .ok (.if_icmp .ge 26, 3)) rfl rfl (fun c1 => ?_) (fun c1 => ?_)
    · have h := it1 h c1
      refine jB C [(.iload_n 2, 1, 0), (.istore 4, 2, 0), (.iload_n 3, 1, 0), (.iconst 1, 1, 1), (.isub, 1, 0)] 73 [(4, .int v2), (0, .ref (b + v0)), (1, .int v1), (2, .int v2), (3, .int v3)] [.int (v3 - 1)] (by decide +kernel) rfl rfl ?_
      refine jTopI (fun x2 e_x2 => ?_)
      have h := h x2 e_x2
      refine jB C [(.istore 5, 2, 0)] 75 [(5, .int x2), (4, .int v2), (0, .ref (b + v0)), (1, .int v1), (2, .int v2), (3, .int v3)] [] (by decide +kernel) rfl rfl ?_
      refine jSub [2, 3, 1, 0] rfl ?_
      exact j_X11_putGlass_75 C hE t_v0 h
    · have h := it2 h c1
      refine jB C [(.aload_n 0, 1, 0)] 45 [(0, .ref (b + v0)), (1, .int v1), (2, .int v2), (3, .int v3), (4, .int v4)] [.ref (b + v0)] (by decide +kernel) rfl rfl ?_
      obtain ⟨a3, e_a3, h⟩ := h
      refine jGetR C 48 (by decide +kernel : decode cX11_putGlass 45 = .ok (.getfield 16, 3)) rfl t_v0 kX11 4 (by decide) rfl rfl (by decide) wd_1158 e_a3 rfl (fun t_a3 => ?_)
      refine jB C [(.bipush 32, 2, 32), (.iconst 5, 1, 5), (.iload_n 1, 1, 0), (.imul, 1, 0), (.iadd, 1, 0), (.iconst 1, 1, 1), (.iadd, 1, 0), (.iload 4, 2, 0), (.iadd, 1, 0), (.iconst 0, 1, 0)] 60 [(0, .ref (b + v0)), (1, .int v1), (2, .int v2), (3, .int v3), (4, .int v4)] [.int 0, .int (((32 + (5 * v1)) + 1) + v4), .ref (b + a3)] (by decide +kernel) rfl rfl ?_
      obtain ⟨y4, h⟩ := h
      refine jIast C 61 (by decide +kernel : decode cX11_putGlass 60 = .ok (.iastore, 1)) rfl hE t_a3 y4 ?_
      refine jTopS (fun S5 e_S5 => ?_)
      have h := h S5 e_S5
      refine jB C [(.iinc 4 1, 3, 1)] 64 [(4, .int (v4 + 1)), (0, .ref (b + v0)), (1, .int v1), (2, .int v2), (3, .int v3)] [] (by decide +kernel) rfl rfl ?_
      refine jGoto C 38 (by decide +kernel : decode cX11_putGlass 64 = .ok (.goto (-26), 3)) rfl ?_
      refine jSub [1, 2, 3, 4, 0] rfl ?_
      exact ih (v4 + 1) S5 h
theorem j_X11_putGlass_38 {p : Program} {l : Launch} {e : Env} {s : State} {m : MethodId} {args : Array Value} {below : List Frame} {meth : Method} {c : Code} {b : Nat} {D : va_G} {cy : Nat → ClassId} {G : Gm} {v0 : Nat} {v1 : Int32} {v2 : Int32} {v3 : Int32} {v4 : Int32} {S : St} {Q : St → Prop} (C : CX p s m args meth c b D cy cX11_putGlass RX11 6 none) (hE : s.heap.size + 0 ≤ b + G.2.2) (t_v0 : ok G 10 v0) (h : f_X11_putGlass_38 G v0 v1 v2 v3 Q v4 S) : J p l e rm_X11_putGlass s m args below meth c b D cy 6 (zV b D cy below args s G Q) 0 0 G S 38 [(0, .ref (b + v0)), (1, .int v1), (2, .int v2), (3, .int v3), (4, .int v4)] [] := by
  obtain ⟨k, h⟩ := h
  exact j_X11_putGlass_38_n C hE t_v0 k v4 S h
set_option maxHeartbeats 4000000 in
set_option maxRecDepth 100000 in
theorem j_X11_putGlass_5_n {p : Program} {l : Launch} {e : Env} {s : State} {m : MethodId} {args : Array Value} {below : List Frame} {meth : Method} {c : Code} {b : Nat} {D : va_G} {cy : Nat → ClassId} {G : Gm} {v0 : Nat} {v1 : Int32} {v2 : Int32} {Q : St → Prop} (C : CX p s m args meth c b D cy cX11_putGlass RX11 6 none) (hE : s.heap.size + 0 ≤ b + G.2.2) (t_v0 : ok G 10 v0) : ∀ k (v3 : Int32) (v4 : Int32) S, f_X11_putGlass_5_n G v0 v1 v2 Q k v3 v4 S → J p l e rm_X11_putGlass s m args below meth c b D cy 6 (zV b D cy below args s G Q) 0 0 G S 5 [(0, .ref (b + v0)), (1, .int v1), (2, .int v2), (3, .int v3), (4, .int v4)] [] := by
  intro k
  induction k with
  | zero => intro v3 v4 S h; exact h.elim
  | succ k ih =>
    intro v3 v4 S h
    unfold f_X11_putGlass_5_n at h
    refine jB C [(.iload 4, 2, 0)] 7 [(0, .ref (b + v0)), (1, .int v1), (2, .int v2), (3, .int v3), (4, .int v4)] [.int v4] (by decide +kernel) rfl rfl ?_
    refine jIf_le C 10 23 (by decide +kernel : decode cX11_putGlass 7 = .ok (.ifCond .le 16, 3)) rfl rfl (fun c1 => ?_) (fun c1 => ?_)
    · have h := it1 h c1
      refine jB C [(.aload_n 0, 1, 0)] 24 [(0, .ref (b + v0)), (1, .int v1), (2, .int v2), (3, .int v3), (4, .int v4)] [.ref (b + v0)] (by decide +kernel) rfl rfl ?_
      obtain ⟨a2, e_a2, h⟩ := h
      refine jGetR C 27 (by decide +kernel : decode cX11_putGlass 24 = .ok (.getfield 16, 3)) rfl t_v0 kX11 4 (by decide) rfl rfl (by decide) wd_1158 e_a2 rfl (fun t_a2 => ?_)
      refine jB C [(.bipush 32, 2, 32), (.iconst 5, 1, 5), (.iload_n 1, 1, 0), (.imul, 1, 0), (.iadd, 1, 0), (.iload_n 3, 1, 0)] 34 [(0, .ref (b + v0)), (1, .int v1), (2, .int v2), (3, .int v3), (4, .int v4)] [.int v3, .int (32 + (5 * v1)), .ref (b + a2)] (by decide +kernel) rfl rfl ?_
      obtain ⟨y3, h⟩ := h
      refine jIast C 35 (by decide +kernel : decode cX11_putGlass 34 = .ok (.iastore, 1)) rfl hE t_a2 y3 ?_
      refine jTopS (fun S4 e_S4 => ?_)
      have h := h S4 e_S4
      refine jB C [(.iconst 0, 1, 0), (.istore 4, 2, 0)] 38 [(4, .int 0), (0, .ref (b + v0)), (1, .int v1), (2, .int v2), (3, .int v3)] [] (by decide +kernel) rfl rfl ?_
      refine jSub [1, 2, 3, 4, 0] rfl ?_
      exact j_X11_putGlass_38 C hE t_v0 h
    · have h := it2 h c1
      refine jB C [(.iinc 3 1, 3, 1), (.iload 4, 2, 0), (.bipush 10, 2, 10)] 17 [(3, .int (v3 + 1)), (0, .ref (b + v0)), (1, .int v1), (2, .int v2), (4, .int v4)] [.int 10, .int v4] (by decide +kernel) rfl rfl ?_
      refine jIdiv C 18 (by decide +kernel : decode cX11_putGlass 17 = .ok (.idiv, 1)) rfl (by decide) ?_
      refine jTopI (fun x5 e_x5 => ?_)
      have h := h x5 e_x5
      refine jB C [(.istore 4, 2, 0)] 20 [(4, .int x5), (3, .int (v3 + 1)), (0, .ref (b + v0)), (1, .int v1), (2, .int v2)] [] (by decide +kernel) rfl rfl ?_
      refine jGoto C 5 (by decide +kernel : decode cX11_putGlass 20 = .ok (.goto (-15), 3)) rfl ?_
      refine jSub [2, 3, 4, 1, 0] rfl ?_
      exact ih (v3 + 1) x5 S h
theorem j_X11_putGlass_5 {p : Program} {l : Launch} {e : Env} {s : State} {m : MethodId} {args : Array Value} {below : List Frame} {meth : Method} {c : Code} {b : Nat} {D : va_G} {cy : Nat → ClassId} {G : Gm} {v0 : Nat} {v1 : Int32} {v2 : Int32} {v3 : Int32} {v4 : Int32} {S : St} {Q : St → Prop} (C : CX p s m args meth c b D cy cX11_putGlass RX11 6 none) (hE : s.heap.size + 0 ≤ b + G.2.2) (t_v0 : ok G 10 v0) (h : f_X11_putGlass_5 G v0 v1 v2 Q v3 v4 S) : J p l e rm_X11_putGlass s m args below meth c b D cy 6 (zV b D cy below args s G Q) 0 0 G S 5 [(0, .ref (b + v0)), (1, .int v1), (2, .int v2), (3, .int v3), (4, .int v4)] [] := by
  obtain ⟨k, h⟩ := h
  exact j_X11_putGlass_5_n C hE t_v0 k v3 v4 S h
set_option maxHeartbeats 4000000 in
set_option maxRecDepth 100000 in
theorem j_X11_putGlass {p : Program} {l : Launch} {e : Env} {s : State} {m : MethodId} {args : Array Value} {below : List Frame} {meth : Method} {c : Code} {b : Nat} {D : va_G} {cy : Nat → ClassId} {G : Gm} {v0 : Nat} {v1 : Int32} {v2 : Int32} {S : St} {Q : St → Prop} (C : CX p s m args meth c b D cy cX11_putGlass RX11 6 none) (hE : s.heap.size + 0 ≤ b + G.2.2) (t_v0 : ok G 10 v0) (h : f_X11_putGlass G v0 v1 v2 Q S) : J p l e rm_X11_putGlass s m args below meth c b D cy 6 (zV b D cy below args s G Q) 0 0 G S 0 [(0, .ref (b + v0)), (1, .int v1), (2, .int v2)] [] := by
  unfold f_X11_putGlass at h
  refine jB C [(.iconst 0, 1, 0), (.istore_n 3, 1, 0), (.iload_n 2, 1, 0), (.istore 4, 2, 0)] 5 [(4, .int v2), (3, .int 0), (0, .ref (b + v0)), (1, .int v1), (2, .int v2)] [] (by decide +kernel) rfl rfl ?_
  refine jSub [2, 3, 4, 1, 0] rfl ?_
  exact j_X11_putGlass_5 C hE t_v0 h
theorem ok_X11_putGlass {G : Gm} {v0 : Nat} {v1 : Int32} {v2 : Int32} {S : St} {Q : St → Prop}  (t_v0 : ok G 10 v0) (h : f_X11_putGlass G v0 v1 v2 Q S) : MT yX11_putGlass cX11_putGlass 6 none rm_X11_putGlass 0 0 (fun b => [.ref (b + v0), .int v1, .int v2]) G S (QV (fun G1 S1 => G1 = G ∧ Q S1)) := MT.ofJ (by decide +kernel) (fun b => [(0, .ref (b + v0)), (1, .int v1), (2, .int v2)]) (fun b => rfl) (fun b => Nat.le_of_ble_eq_true rfl) (fun l b D cy p e s m below meth c C hE hn => j_X11_putGlass C hE t_v0 h)
theorem hd_X11_putGlass : yX11_putGlass.cls ≠ "java/lang/invoke/MethodHandle" ∧ yX11_putGlass.cls ≠ "java/lang/invoke/VarHandle" ∧ (parseMethodDescriptor yX11_putGlass.desc).map (fun d => d.parameters.length) = some 2 := by decide +kernel
abbrev rm_X11_clothNow : Room := { frames := 2, cells := 0, slots := 0, locals := 46 }
set_option maxHeartbeats 4000000 in
set_option maxRecDepth 100000 in
theorem j_X11_clothNow {p : Program} {l : Launch} {e : Env} {s : State} {m : MethodId} {args : Array Value} {below : List Frame} {meth : Method} {c : Code} {b : Nat} {D : va_G} {cy : Nat → ClassId} {G : Gm} {v0 : Nat} {v1 : Int32} {S : St} {Q : Int32 → St → Prop} (C : CX p s m args meth c b D cy cX11_clothNow RX11 3 (some .int)) (hE : s.heap.size + 0 ≤ b + G.2.2) (t_v0 : ok G 10 v0) (h : f_X11_clothNow G v0 v1 Q S) : J p l e rm_X11_clothNow s m args below meth c b D cy 3 (zI b D cy below args s G Q) 0 0 G S 0 [(0, .ref (b + v0)), (1, .int v1)] [] := by
  unfold f_X11_clothNow at h
  refine jB C [(.aload_n 0, 1, 0), (.iload_n 1, 1, 0)] 2 [(0, .ref (b + v0)), (1, .int v1)] [.int v1, .ref (b + v0)] (by decide +kernel) rfl rfl ?_
  refine jcV_I C 5 (rest := []) (ok_X11_isPerson t_v0 h) (by decide +kernel : decode cX11_clothNow 2 = .ok (.invokevirtual 209, 3)) rfl wd_1376 wd_1378 wp_103 wd_12 wd_1379 ⟨rfl, rfl⟩ hd_X11_isPerson ⟨Nat.le_of_ble_eq_true rfl, Nat.le_of_ble_eq_true rfl⟩ t_v0 kX11 (by decide) rfl rfl rfl (Nat.le_of_ble_eq_true rfl) ⟨Nat.zero_le _, Nat.zero_le _⟩ (fun r2 S1 h => ?_)
  refine jIf_ne C 8 11 (by decide +kernel : decode cX11_clothNow 5 = .ok (.ifCond .ne 6, 3)) rfl rfl (fun c3 => ?_) (fun c3 => ?_)
  · have h := it2 h c3
    refine jB C [(.aload_n 0, 1, 0), (.iload_n 1, 1, 0)] 13 [(0, .ref (b + v0)), (1, .int v1)] [.int v1, .ref (b + v0)] (by decide +kernel) rfl rfl ?_
    refine jcV_I C 16 (rest := []) (ok_X11_lensesOf t_v0 h) (by decide +kernel : decode cX11_clothNow 13 = .ok (.invokevirtual 196, 3)) rfl wd_1382 wd_1384 wp_104 wd_12 wd_1385 ⟨rfl, rfl⟩ hd_X11_lensesOf ⟨Nat.le_of_ble_eq_true rfl, Nat.le_of_ble_eq_true rfl⟩ t_v0 kX11 (by decide) rfl rfl rfl (Nat.le_of_ble_eq_true rfl) ⟨Nat.zero_le _, Nat.zero_le _⟩ (fun r5 S4 h => ?_)
    refine jB C [(.istore_n 2, 1, 0), (.iload_n 2, 1, 0)] 18 [(2, .int r5), (0, .ref (b + v0)), (1, .int v1)] [.int r5] (by decide +kernel) rfl rfl ?_
    refine jIf_ne C 21 24 (by decide +kernel : decode cX11_clothNow 18 = .ok (.ifCond .ne 6, 3)) rfl rfl (fun c6 => ?_) (fun c6 => ?_)
    · have h := it2 h c6
      refine jB C [(.aload_n 0, 1, 0), (.iconst 3, 1, 3)] 26 [(2, .int r5), (0, .ref (b + v0)), (1, .int v1)] [.int 3, .ref (b + v0)] (by decide +kernel) rfl rfl ?_
      refine jcV_V C 29 (rest := []) (ok_X11_remember t_v0 h) (by decide +kernel : decode cX11_clothNow 26 = .ok (.invokevirtual 464, 3)) rfl wd_1647 wd_1649 wp_144 wd_12 wd_1650 ⟨rfl, rfl⟩ hd_X11_remember ⟨Nat.le_of_ble_eq_true rfl, Nat.le_of_ble_eq_true rfl⟩ t_v0 kX11 (by decide) rfl rfl rfl (Nat.le_of_ble_eq_true rfl) ⟨Nat.zero_le _, Nat.zero_le _⟩ (fun S7 h => ?_)
      refine jB C [(.aload_n 0, 1, 0), (.iload_n 1, 1, 0), (.iconst 0, 1, 0)] 32 [(2, .int r5), (0, .ref (b + v0)), (1, .int v1)] [.int 0, .int v1, .ref (b + v0)] (by decide +kernel) rfl rfl ?_
      refine jcV_V C 35 (rest := []) (ok_X11_putGlass t_v0 h) (by decide +kernel : decode cX11_clothNow 32 = .ok (.invokevirtual 238, 3)) rfl wd_1457 wd_1459 wp_116 wd_12 wd_1460 ⟨rfl, rfl⟩ hd_X11_putGlass ⟨Nat.le_of_ble_eq_true rfl, Nat.le_of_ble_eq_true rfl⟩ t_v0 kX11 (by decide) rfl rfl rfl (Nat.le_of_ble_eq_true rfl) ⟨Nat.zero_le _, Nat.zero_le _⟩ (fun S8 h => ?_)
      refine jB C [(.iload_n 2, 1, 0)] 36 [(2, .int r5), (0, .ref (b + v0)), (1, .int v1)] [.int r5] (by decide +kernel) rfl rfl ?_
      exact jRetI C (by decide +kernel : decode cX11_clothNow 36 = .ok (.ireturn, 1)) (Nat.le_refl _) (Nat.le_refl _) ⟨rfl, h⟩
    · have h := it1 h c6
      refine jB C [(.bipush (-3), 2, (-3))] 23 [(2, .int r5), (0, .ref (b + v0)), (1, .int v1)] [.int (-3)] (by decide +kernel) rfl rfl ?_
      exact jRetI C (by decide +kernel : decode cX11_clothNow 23 = .ok (.ireturn, 1)) (Nat.le_refl _) (Nat.le_refl _) ⟨rfl, h⟩
  · have h := it1 h c3
    refine jB C [(.bipush (-2), 2, (-2))] 10 [(0, .ref (b + v0)), (1, .int v1)] [.int (-2)] (by decide +kernel) rfl rfl ?_
    exact jRetI C (by decide +kernel : decode cX11_clothNow 10 = .ok (.ireturn, 1)) (Nat.le_refl _) (Nat.le_refl _) ⟨rfl, h⟩
theorem ok_X11_clothNow {G : Gm} {v0 : Nat} {v1 : Int32} {S : St} {Q : Int32 → St → Prop}  (t_v0 : ok G 10 v0) (h : f_X11_clothNow G v0 v1 Q S) : MT yX11_clothNow cX11_clothNow 3 (some .int) rm_X11_clothNow 0 0 (fun b => [.ref (b + v0), .int v1]) G S (QI (fun r G1 S1 => G1 = G ∧ Q r S1)) := MT.ofJ (by decide +kernel) (fun b => [(0, .ref (b + v0)), (1, .int v1)]) (fun b => rfl) (fun b => Nat.le_of_ble_eq_true rfl) (fun l b D cy p e s m below meth c C hE hn => j_X11_clothNow C hE t_v0 h)
theorem hd_X11_clothNow : yX11_clothNow.cls ≠ "java/lang/invoke/MethodHandle" ∧ yX11_clothNow.cls ≠ "java/lang/invoke/VarHandle" ∧ (parseMethodDescriptor yX11_clothNow.desc).map (fun d => d.parameters.length) = some 1 := by decide +kernel
abbrev rm_X11_growsOf : Room := { frames := 6, cells := 0, slots := 0, locals := 143 }
set_option maxHeartbeats 4000000 in
set_option maxRecDepth 100000 in
theorem j_X11_growsOf {p : Program} {l : Launch} {e : Env} {s : State} {m : MethodId} {args : Array Value} {below : List Frame} {meth : Method} {c : Code} {b : Nat} {D : va_G} {cy : Nat → ClassId} {G : Gm} {v0 : Nat} {v1 : Int32} {v2 : Int32} {S : St} {Q : Int32 → St → Prop} (C : CX p s m args meth c b D cy cX11_growsOf RX11 3 (some .int)) (hE : s.heap.size + 0 ≤ b + G.2.2) (t_v0 : ok G 10 v0) (h : f_X11_growsOf G v0 v1 v2 Q S) : J p l e rm_X11_growsOf s m args below meth c b D cy 3 (zI b D cy below args s G Q) 0 0 G S 0 [(0, .ref (b + v0)), (1, .int v1), (2, .int v2)] [] := by
  unfold f_X11_growsOf at h
  refine jB C [(.aload_n 0, 1, 0), (.iconst 1, 1, 1), (.iload_n 1, 1, 0), (.iload_n 2, 1, 0), (.iconst (-1), 1, (-1)), (.lconst 0, 1, 0)] 6 [(0, .ref (b + v0)), (1, .int v1), (2, .int v2)] [.long 0, .int (-1), .int v2, .int v1, .int 1, .ref (b + v0)] (by decide +kernel) rfl rfl ?_
  refine jcV_L C 9 (rest := []) (ok_X11_tells t_v0 h) (by decide +kernel : decode cX11_growsOf 6 = .ok (.invokevirtual 454, 3)) rfl wd_1401 wd_1403 wp_108 wd_12 wd_1404 ⟨rfl, rfl⟩ hd_X11_tells ⟨Nat.le_of_ble_eq_true rfl, Nat.le_of_ble_eq_true rfl⟩ t_v0 kX11 (by decide) rfl rfl rfl (Nat.le_of_ble_eq_true rfl) ⟨Nat.zero_le _, Nat.zero_le _⟩ (fun r2 S1 h => ?_)
  refine jB C [(.bipush (-8), 2, (-8)), (.bipush 8, 2, 8)] 13 [(0, .ref (b + v0)), (1, .int v1), (2, .int v2)] [.int 8, .int (-8), .long r2] (by decide +kernel) rfl rfl ?_
  refine jcS_I C 16 (rest := []) (ok_X11_within h) (by decide +kernel : decode cX11_growsOf 13 = .ok (.invokestatic 458, 3)) rfl wd_1427 wd_1428 wd_12 wd_1429 ⟨rfl, rfl⟩ hd_X11_within ⟨Nat.le_of_ble_eq_true rfl, Nat.le_of_ble_eq_true rfl⟩ rfl rfl (Nat.le_of_ble_eq_true rfl) ⟨Nat.zero_le _, Nat.zero_le _⟩ (fun r4 S3 h => ?_)
  exact jRetI C (by decide +kernel : decode cX11_growsOf 16 = .ok (.ireturn, 1)) (Nat.le_refl _) (Nat.le_refl _) ⟨rfl, h⟩
theorem ok_X11_growsOf {G : Gm} {v0 : Nat} {v1 : Int32} {v2 : Int32} {S : St} {Q : Int32 → St → Prop}  (t_v0 : ok G 10 v0) (h : f_X11_growsOf G v0 v1 v2 Q S) : MT yX11_growsOf cX11_growsOf 3 (some .int) rm_X11_growsOf 0 0 (fun b => [.ref (b + v0), .int v1, .int v2]) G S (QI (fun r G1 S1 => G1 = G ∧ Q r S1)) := MT.ofJ (by decide +kernel) (fun b => [(0, .ref (b + v0)), (1, .int v1), (2, .int v2)]) (fun b => rfl) (fun b => Nat.le_of_ble_eq_true rfl) (fun l b D cy p e s m below meth c C hE hn => j_X11_growsOf C hE t_v0 h)
theorem hd_X11_growsOf : yX11_growsOf.cls ≠ "java/lang/invoke/MethodHandle" ∧ yX11_growsOf.cls ≠ "java/lang/invoke/VarHandle" ∧ (parseMethodDescriptor yX11_growsOf.desc).map (fun d => d.parameters.length) = some 2 := by decide +kernel
abbrev rm_X11_passIt : Room := { frames := 7, cells := 0, slots := 0, locals := 165 }
set_option maxHeartbeats 4000000 in
set_option maxRecDepth 100000 in
theorem j_X11_passIt_38_n {p : Program} {l : Launch} {e : Env} {s : State} {m : MethodId} {args : Array Value} {below : List Frame} {meth : Method} {c : Code} {b : Nat} {D : va_G} {cy : Nat → ClassId} {G : Gm} {v0 : Nat} {Q : St → Prop} (C : CX p s m args meth c b D cy cX11_passIt RX11 2 none) (hE : s.heap.size + 0 ≤ b + G.2.2) (t_v0 : ok G 10 v0) : ∀ k (v1 : Int32) S, f_X11_passIt_38_n G v0 Q k v1 S → J p l e rm_X11_passIt s m args below meth c b D cy 2 (zV b D cy below args s G Q) 0 0 G S 38 [(0, .ref (b + v0)), (1, .int v1)] [] := by
  intro k
  induction k with
  | zero => intro v1 S h; exact h.elim
  | succ k ih =>
    intro v1 S h
    unfold f_X11_passIt_38_n at h
    refine jB C [(.iload_n 1, 1, 0), (.iconst 4, 1, 4), (.aload_n 0, 1, 0)] 41 [(0, .ref (b + v0)), (1, .int v1)] [.ref (b + v0), .int 4, .int v1] (by decide +kernel) rfl rfl ?_
    obtain ⟨a1, e_a1, h⟩ := h
    refine jGetR C 44 (by decide +kernel : decode cX11_passIt 41 = .ok (.getfield 16, 3)) rfl t_v0 kX11 4 (by decide) rfl rfl (by decide) wd_1158 e_a1 rfl (fun t_a1 => ?_)
    refine jB C [(.iconst 0, 1, 0)] 45 [(0, .ref (b + v0)), (1, .int v1)] [.int 0, .ref (b + a1), .int 4, .int v1] (by decide +kernel) rfl rfl ?_
    obtain ⟨y2, h⟩ := h
    refine jIald C 46 (by decide +kernel : decode cX11_passIt 45 = .ok (.iaload, 1)) rfl t_a1 y2 ?_
    refine jB C [(.imul, 1, 0)] 47 [(0, .ref (b + v0)), (1, .int v1)] [.int (4 * (S.1 a1 (0 : Int32).toNatClampNeg)), .int v1] (by decide +kernel) rfl rfl ?_
    refine jIcmp_ge C 50 88 (by decide +kernel : decode cX11_passIt 47 = .ok (.if_icmp .ge 41, 3)) rfl rfl (fun c3 => ?_) (fun c3 => ?_)
    · have h := it1 h c3
      refine jB C [(.aload_n 0, 1, 0)] 89 [(0, .ref (b + v0)), (1, .int v1)] [.ref (b + v0)] (by decide +kernel) rfl rfl ?_
      obtain ⟨a4, e_a4, h⟩ := h
      refine jGetR C 92 (by decide +kernel : decode cX11_passIt 89 = .ok (.getfield 16, 3)) rfl t_v0 kX11 4 (by decide) rfl rfl (by decide) wd_1158 e_a4 rfl (fun t_a4 => ?_)
      refine jB C [(.iconst 4, 1, 4), (.dup2, 1, 0)] 94 [(0, .ref (b + v0)), (1, .int v1)] [.int 4, .ref (b + a4), .int 4, .ref (b + a4)] (by decide +kernel) rfl rfl ?_
      obtain ⟨y5, h⟩ := h
      refine jIald C 95 (by decide +kernel : decode cX11_passIt 94 = .ok (.iaload, 1)) rfl t_a4 y5 ?_
      refine jB C [(.iconst 1, 1, 1), (.iadd, 1, 0)] 97 [(0, .ref (b + v0)), (1, .int v1)] [.int ((S.1 a4 (4 : Int32).toNatClampNeg) + 1), .int 4, .ref (b + a4)] (by decide +kernel) rfl rfl ?_
      obtain ⟨y6, h⟩ := h
      refine jIast C 98 (by decide +kernel : decode cX11_passIt 97 = .ok (.iastore, 1)) rfl hE t_a4 y6 ?_
      refine jTopS (fun S7 e_S7 => ?_)
      have h := h S7 e_S7
      exact jRetV C (by decide +kernel : decode cX11_passIt 98 = .ok (.return_, 1)) (Nat.le_refl _) (Nat.le_refl _) ⟨rfl, h⟩
    · have h := it2 h c3
      refine jB C [(.aload_n 0, 1, 0)] 51 [(0, .ref (b + v0)), (1, .int v1)] [.ref (b + v0)] (by decide +kernel) rfl rfl ?_
      obtain ⟨a8, e_a8, h⟩ := h
      refine jGetR C 54 (by decide +kernel : decode cX11_passIt 51 = .ok (.getfield 16, 3)) rfl t_v0 kX11 4 (by decide) rfl rfl (by decide) wd_1158 e_a8 rfl (fun t_a8 => ?_)
      refine jB C [(.bipush 8, 2, 8), (.iload_n 1, 1, 0), (.iadd, 1, 0), (.aload_n 0, 1, 0)] 59 [(0, .ref (b + v0)), (1, .int v1)] [.ref (b + v0), .int (8 + v1), .ref (b + a8)] (by decide +kernel) rfl rfl ?_
      obtain ⟨a9, e_a9, h⟩ := h
      refine jGetR C 62 (by decide +kernel : decode cX11_passIt 59 = .ok (.getfield 16, 3)) rfl t_v0 kX11 4 (by decide) rfl rfl (by decide) wd_1158 e_a9 rfl (fun t_a9 => ?_)
      refine jB C [(.bipush 8, 2, 8), (.iload_n 1, 1, 0), (.iadd, 1, 0)] 66 [(0, .ref (b + v0)), (1, .int v1)] [.int (8 + v1), .ref (b + a9), .int (8 + v1), .ref (b + a8)] (by decide +kernel) rfl rfl ?_
      obtain ⟨y10, h⟩ := h
      refine jIald C 67 (by decide +kernel : decode cX11_passIt 66 = .ok (.iaload, 1)) rfl t_a9 y10 ?_
      refine jB C [(.aload_n 0, 1, 0)] 68 [(0, .ref (b + v0)), (1, .int v1)] [.ref (b + v0), .int (S.1 a9 (8 + v1).toNatClampNeg), .int (8 + v1), .ref (b + a8)] (by decide +kernel) rfl rfl ?_
      obtain ⟨a11, e_a11, h⟩ := h
      refine jGetR C 71 (by decide +kernel : decode cX11_passIt 68 = .ok (.getfield 117, 3)) rfl t_v0 kX11 44 (by decide) rfl rfl (by decide) wd_1198 e_a11 rfl (fun t_a11 => ?_)
      refine jB C [(.iload_n 1, 1, 0)] 72 [(0, .ref (b + v0)), (1, .int v1)] [.int v1, .ref (b + a11), .int (S.1 a9 (8 + v1).toNatClampNeg), .int (8 + v1), .ref (b + a8)] (by decide +kernel) rfl rfl ?_
      obtain ⟨y12, h⟩ := h
      refine jIald C 73 (by decide +kernel : decode cX11_passIt 72 = .ok (.iaload, 1)) rfl t_a11 y12 ?_
      refine jB C [(.iadd, 1, 0), (.i2l, 1, 0), (.iconst 0, 1, 0), (.bipush 8, 2, 8)] 78 [(0, .ref (b + v0)), (1, .int v1)] [.int 8, .int 0, .long (((S.1 a9 (8 + v1).toNatClampNeg) + (S.1 a11 v1.toNatClampNeg)).toInt64), .int (8 + v1), .ref (b + a8)] (by decide +kernel) rfl rfl ?_
      refine jcS_I C 81 (rest := [.int (8 + v1), .ref (b + a8)]) (ok_X11_within h) (by decide +kernel : decode cX11_passIt 78 = .ok (.invokestatic 458, 3)) rfl wd_1427 wd_1428 wd_12 wd_1429 ⟨rfl, rfl⟩ hd_X11_within ⟨Nat.le_of_ble_eq_true rfl, Nat.le_of_ble_eq_true rfl⟩ rfl rfl (Nat.le_of_ble_eq_true rfl) ⟨Nat.zero_le _, Nat.zero_le _⟩ (fun r14 S13 h => ?_)
      obtain ⟨y15, h⟩ := h
      refine jIast C 82 (by decide +kernel : decode cX11_passIt 81 = .ok (.iastore, 1)) rfl hE t_a8 y15 ?_
      refine jTopS (fun S16 e_S16 => ?_)
      have h := h S16 e_S16
      refine jB C [(.iinc 1 1, 3, 1)] 85 [(1, .int (v1 + 1)), (0, .ref (b + v0))] [] (by decide +kernel) rfl rfl ?_
      refine jGoto C 38 (by decide +kernel : decode cX11_passIt 85 = .ok (.goto (-47), 3)) rfl ?_
      refine jSub [1, 0] rfl ?_
      exact ih (v1 + 1) S16 h
theorem j_X11_passIt_38 {p : Program} {l : Launch} {e : Env} {s : State} {m : MethodId} {args : Array Value} {below : List Frame} {meth : Method} {c : Code} {b : Nat} {D : va_G} {cy : Nat → ClassId} {G : Gm} {v0 : Nat} {v1 : Int32} {S : St} {Q : St → Prop} (C : CX p s m args meth c b D cy cX11_passIt RX11 2 none) (hE : s.heap.size + 0 ≤ b + G.2.2) (t_v0 : ok G 10 v0) (h : f_X11_passIt_38 G v0 Q v1 S) : J p l e rm_X11_passIt s m args below meth c b D cy 2 (zV b D cy below args s G Q) 0 0 G S 38 [(0, .ref (b + v0)), (1, .int v1)] [] := by
  obtain ⟨k, h⟩ := h
  exact j_X11_passIt_38_n C hE t_v0 k v1 S h
set_option maxHeartbeats 4000000 in
set_option maxRecDepth 100000 in
theorem j_X11_passIt_2_n {p : Program} {l : Launch} {e : Env} {s : State} {m : MethodId} {args : Array Value} {below : List Frame} {meth : Method} {c : Code} {b : Nat} {D : va_G} {cy : Nat → ClassId} {G : Gm} {v0 : Nat} {Q : St → Prop} (C : CX p s m args meth c b D cy cX11_passIt RX11 2 none) (hE : s.heap.size + 0 ≤ b + G.2.2) (t_v0 : ok G 10 v0) : ∀ k (v1 : Int32) S, f_X11_passIt_2_n G v0 Q k v1 S → J p l e rm_X11_passIt s m args below meth c b D cy 2 (zV b D cy below args s G Q) 0 0 G S 2 [(0, .ref (b + v0)), (1, .int v1)] [] := by
  intro k
  induction k with
  | zero => intro v1 S h; exact h.elim
  | succ k ih =>
    intro v1 S h
    unfold f_X11_passIt_2_n at h
    refine jB C [(.iload_n 1, 1, 0), (.iconst 4, 1, 4), (.aload_n 0, 1, 0)] 5 [(0, .ref (b + v0)), (1, .int v1)] [.ref (b + v0), .int 4, .int v1] (by decide +kernel) rfl rfl ?_
    obtain ⟨a1, e_a1, h⟩ := h
    refine jGetR C 8 (by decide +kernel : decode cX11_passIt 5 = .ok (.getfield 16, 3)) rfl t_v0 kX11 4 (by decide) rfl rfl (by decide) wd_1158 e_a1 rfl (fun t_a1 => ?_)
    refine jB C [(.iconst 0, 1, 0)] 9 [(0, .ref (b + v0)), (1, .int v1)] [.int 0, .ref (b + a1), .int 4, .int v1] (by decide +kernel) rfl rfl ?_
    obtain ⟨y2, h⟩ := h
    refine jIald C 10 (by decide +kernel : decode cX11_passIt 9 = .ok (.iaload, 1)) rfl t_a1 y2 ?_
    refine jB C [(.imul, 1, 0)] 11 [(0, .ref (b + v0)), (1, .int v1)] [.int (4 * (S.1 a1 (0 : Int32).toNatClampNeg)), .int v1] (by decide +kernel) rfl rfl ?_
    refine jIcmp_ge C 14 36 (by decide +kernel : decode cX11_passIt 11 = .ok (.if_icmp .ge 25, 3)) rfl rfl (fun c3 => ?_) (fun c3 => ?_)
    · have h := it1 h c3
      refine jB C [(.iconst 0, 1, 0), (.istore_n 1, 1, 0)] 38 [(1, .int 0), (0, .ref (b + v0))] [] (by decide +kernel) rfl rfl ?_
      refine jSub [1, 0] rfl ?_
      exact j_X11_passIt_38 C hE t_v0 h
    · have h := it2 h c3
      refine jB C [(.aload_n 0, 1, 0)] 15 [(0, .ref (b + v0)), (1, .int v1)] [.ref (b + v0)] (by decide +kernel) rfl rfl ?_
      obtain ⟨a4, e_a4, h⟩ := h
      refine jGetR C 18 (by decide +kernel : decode cX11_passIt 15 = .ok (.getfield 117, 3)) rfl t_v0 kX11 44 (by decide) rfl rfl (by decide) wd_1198 e_a4 rfl (fun t_a4 => ?_)
      refine jB C [(.iload_n 1, 1, 0), (.aload_n 0, 1, 0), (.iload_n 1, 1, 0), (.iconst 4, 1, 4)] 22 [(0, .ref (b + v0)), (1, .int v1)] [.int 4, .int v1, .ref (b + v0), .int v1, .ref (b + a4)] (by decide +kernel) rfl rfl ?_
      refine jIdiv C 23 (by decide +kernel : decode cX11_passIt 22 = .ok (.idiv, 1)) rfl (by decide) ?_
      refine jB C [(.iload_n 1, 1, 0), (.iconst 4, 1, 4)] 25 [(0, .ref (b + v0)), (1, .int v1)] [.int 4, .int v1, .int (v1 / 4), .ref (b + v0), .int v1, .ref (b + a4)] (by decide +kernel) rfl rfl ?_
      refine jIrem C 26 (by decide +kernel : decode cX11_passIt 25 = .ok (.irem, 1)) rfl (by decide) ?_
      refine jcV_I C 29 (rest := [.int v1, .ref (b + a4)]) (ok_X11_growsOf t_v0 h) (by decide +kernel : decode cX11_passIt 26 = .ok (.invokevirtual 230, 3)) rfl wd_1445 wd_1447 wp_115 wd_12 wd_1448 ⟨rfl, rfl⟩ hd_X11_growsOf ⟨Nat.le_of_ble_eq_true rfl, Nat.le_of_ble_eq_true rfl⟩ t_v0 kX11 (by decide) rfl rfl rfl (Nat.le_of_ble_eq_true rfl) ⟨Nat.zero_le _, Nat.zero_le _⟩ (fun r6 S5 h => ?_)
      obtain ⟨y7, h⟩ := h
      refine jIast C 30 (by decide +kernel : decode cX11_passIt 29 = .ok (.iastore, 1)) rfl hE t_a4 y7 ?_
      refine jTopS (fun S8 e_S8 => ?_)
      have h := h S8 e_S8
      refine jB C [(.iinc 1 1, 3, 1)] 33 [(1, .int (v1 + 1)), (0, .ref (b + v0))] [] (by decide +kernel) rfl rfl ?_
      refine jGoto C 2 (by decide +kernel : decode cX11_passIt 33 = .ok (.goto (-31), 3)) rfl ?_
      refine jSub [1, 0] rfl ?_
      exact ih (v1 + 1) S8 h
theorem j_X11_passIt_2 {p : Program} {l : Launch} {e : Env} {s : State} {m : MethodId} {args : Array Value} {below : List Frame} {meth : Method} {c : Code} {b : Nat} {D : va_G} {cy : Nat → ClassId} {G : Gm} {v0 : Nat} {v1 : Int32} {S : St} {Q : St → Prop} (C : CX p s m args meth c b D cy cX11_passIt RX11 2 none) (hE : s.heap.size + 0 ≤ b + G.2.2) (t_v0 : ok G 10 v0) (h : f_X11_passIt_2 G v0 Q v1 S) : J p l e rm_X11_passIt s m args below meth c b D cy 2 (zV b D cy below args s G Q) 0 0 G S 2 [(0, .ref (b + v0)), (1, .int v1)] [] := by
  obtain ⟨k, h⟩ := h
  exact j_X11_passIt_2_n C hE t_v0 k v1 S h
set_option maxHeartbeats 4000000 in
set_option maxRecDepth 100000 in
theorem j_X11_passIt {p : Program} {l : Launch} {e : Env} {s : State} {m : MethodId} {args : Array Value} {below : List Frame} {meth : Method} {c : Code} {b : Nat} {D : va_G} {cy : Nat → ClassId} {G : Gm} {v0 : Nat} {S : St} {Q : St → Prop} (C : CX p s m args meth c b D cy cX11_passIt RX11 2 none) (hE : s.heap.size + 0 ≤ b + G.2.2) (t_v0 : ok G 10 v0) (h : f_X11_passIt G v0 Q S) : J p l e rm_X11_passIt s m args below meth c b D cy 2 (zV b D cy below args s G Q) 0 0 G S 0 [(0, .ref (b + v0))] [] := by
  unfold f_X11_passIt at h
  refine jB C [(.iconst 0, 1, 0), (.istore_n 1, 1, 0)] 2 [(1, .int 0), (0, .ref (b + v0))] [] (by decide +kernel) rfl rfl ?_
  refine jSub [1, 0] rfl ?_
  exact j_X11_passIt_2 C hE t_v0 h
theorem ok_X11_passIt {G : Gm} {v0 : Nat} {S : St} {Q : St → Prop}  (t_v0 : ok G 10 v0) (h : f_X11_passIt G v0 Q S) : MT yX11_passIt cX11_passIt 2 none rm_X11_passIt 0 0 (fun b => [.ref (b + v0)]) G S (QV (fun G1 S1 => G1 = G ∧ Q S1)) := MT.ofJ (by decide +kernel) (fun b => [(0, .ref (b + v0))]) (fun b => rfl) (fun b => Nat.le_of_ble_eq_true rfl) (fun l b D cy p e s m below meth c C hE hn => j_X11_passIt C hE t_v0 h)
theorem hd_X11_passIt : yX11_passIt.cls ≠ "java/lang/invoke/MethodHandle" ∧ yX11_passIt.cls ≠ "java/lang/invoke/VarHandle" ∧ (parseMethodDescriptor yX11_passIt.desc).map (fun d => d.parameters.length) = some 0 := by decide +kernel
abbrev rm_X11_passNow : Room := { frames := 8, cells := 0, slots := 0, locals := 186 }
set_option maxHeartbeats 4000000 in
set_option maxRecDepth 100000 in
theorem j_X11_passNow {p : Program} {l : Launch} {e : Env} {s : State} {m : MethodId} {args : Array Value} {below : List Frame} {meth : Method} {c : Code} {b : Nat} {D : va_G} {cy : Nat → ClassId} {G : Gm} {v0 : Nat} {S : St} {Q : Int32 → St → Prop} (C : CX p s m args meth c b D cy cX11_passNow RX11 1 (some .int)) (hE : s.heap.size + 0 ≤ b + G.2.2) (t_v0 : ok G 10 v0) (h : f_X11_passNow G v0 Q S) : J p l e rm_X11_passNow s m args below meth c b D cy 1 (zI b D cy below args s G Q) 0 0 G S 0 [(0, .ref (b + v0))] [] := by
  unfold f_X11_passNow at h
  refine jB C [(.aload_n 0, 1, 0)] 1 [(0, .ref (b + v0))] [.ref (b + v0)] (by decide +kernel) rfl rfl ?_
  obtain ⟨a1, e_a1, h⟩ := h
  refine jGetR C 4 (by decide +kernel : decode cX11_passNow 1 = .ok (.getfield 16, 3)) rfl t_v0 kX11 4 (by decide) rfl rfl (by decide) wd_1158 e_a1 rfl (fun t_a1 => ?_)
  refine jB C [(.iconst 4, 1, 4)] 5 [(0, .ref (b + v0))] [.int 4, .ref (b + a1)] (by decide +kernel) rfl rfl ?_
  obtain ⟨y2, h⟩ := h
  refine jIald C 6 (by decide +kernel : decode cX11_passNow 5 = .ok (.iaload, 1)) rfl t_a1 y2 ?_
  refine jB C [(.sipush 999, 3, 999)] 9 [(0, .ref (b + v0))] [.int 999, .int (S.1 a1 (4 : Int32).toNatClampNeg)] (by decide +kernel) rfl rfl ?_
  refine jIcmp_ne C 12 15 (by decide +kernel : decode cX11_passNow 9 = .ok (.if_icmp .ne 6, 3)) rfl rfl (fun c3 => ?_) (fun c3 => ?_)
  · have h := it2 h c3
    refine jB C [(.aload_n 0, 1, 0), (.iconst 4, 1, 4)] 17 [(0, .ref (b + v0))] [.int 4, .ref (b + v0)] (by decide +kernel) rfl rfl ?_
    refine jcV_V C 20 (rest := []) (ok_X11_remember t_v0 h) (by decide +kernel : decode cX11_passNow 17 = .ok (.invokevirtual 464, 3)) rfl wd_1647 wd_1649 wp_144 wd_12 wd_1650 ⟨rfl, rfl⟩ hd_X11_remember ⟨Nat.le_of_ble_eq_true rfl, Nat.le_of_ble_eq_true rfl⟩ t_v0 kX11 (by decide) rfl rfl rfl (Nat.le_of_ble_eq_true rfl) ⟨Nat.zero_le _, Nat.zero_le _⟩ (fun S4 h => ?_)
    refine jB C [(.aload_n 0, 1, 0)] 21 [(0, .ref (b + v0))] [.ref (b + v0)] (by decide +kernel) rfl rfl ?_
    refine jcV_V C 24 (rest := []) (ok_X11_passIt t_v0 h) (by decide +kernel : decode cX11_passNow 21 = .ok (.invokevirtual 489, 3)) rfl wd_1699 wd_1701 wp_153 wd_12 wd_1702 ⟨rfl, rfl⟩ hd_X11_passIt ⟨Nat.le_of_ble_eq_true rfl, Nat.le_of_ble_eq_true rfl⟩ t_v0 kX11 (by decide) rfl rfl rfl (Nat.le_of_ble_eq_true rfl) ⟨Nat.zero_le _, Nat.zero_le _⟩ (fun S5 h => ?_)
    refine jB C [(.aload_n 0, 1, 0)] 25 [(0, .ref (b + v0))] [.ref (b + v0)] (by decide +kernel) rfl rfl ?_
    obtain ⟨a6, e_a6, h⟩ := h
    refine jGetR C 28 (by decide +kernel : decode cX11_passNow 25 = .ok (.getfield 16, 3)) rfl t_v0 kX11 4 (by decide) rfl rfl (by decide) wd_1158 e_a6 rfl (fun t_a6 => ?_)
    refine jB C [(.iconst 4, 1, 4)] 29 [(0, .ref (b + v0))] [.int 4, .ref (b + a6)] (by decide +kernel) rfl rfl ?_
    obtain ⟨y7, h⟩ := h
    refine jIald C 30 (by decide +kernel : decode cX11_passNow 29 = .ok (.iaload, 1)) rfl t_a6 y7 ?_
    exact jRetI C (by decide +kernel : decode cX11_passNow 30 = .ok (.ireturn, 1)) (Nat.le_refl _) (Nat.le_refl _) ⟨rfl, h⟩
  · have h := it1 h c3
    refine jB C [(.bipush (-3), 2, (-3))] 14 [(0, .ref (b + v0))] [.int (-3)] (by decide +kernel) rfl rfl ?_
    exact jRetI C (by decide +kernel : decode cX11_passNow 14 = .ok (.ireturn, 1)) (Nat.le_refl _) (Nat.le_refl _) ⟨rfl, h⟩
theorem ok_X11_passNow {G : Gm} {v0 : Nat} {S : St} {Q : Int32 → St → Prop}  (t_v0 : ok G 10 v0) (h : f_X11_passNow G v0 Q S) : MT yX11_passNow cX11_passNow 1 (some .int) rm_X11_passNow 0 0 (fun b => [.ref (b + v0)]) G S (QI (fun r G1 S1 => G1 = G ∧ Q r S1)) := MT.ofJ (by decide +kernel) (fun b => [(0, .ref (b + v0))]) (fun b => rfl) (fun b => Nat.le_of_ble_eq_true rfl) (fun l b D cy p e s m below meth c C hE hn => j_X11_passNow C hE t_v0 h)
theorem hd_X11_passNow : yX11_passNow.cls ≠ "java/lang/invoke/MethodHandle" ∧ yX11_passNow.cls ≠ "java/lang/invoke/VarHandle" ∧ (parseMethodDescriptor yX11_passNow.desc).map (fun d => d.parameters.length) = some 0 := by decide +kernel
abbrev rm_X11_act : Room := { frames := 10, cells := 0, slots := 0, locals := 233 }
set_option maxHeartbeats 4000000 in
set_option maxRecDepth 100000 in
theorem j_X11_act {p : Program} {l : Launch} {e : Env} {s : State} {m : MethodId} {args : Array Value} {below : List Frame} {meth : Method} {c : Code} {b : Nat} {D : va_G} {cy : Nat → ClassId} {G : Gm} {v0 : Nat} {v1 : Int32} {v2 : Int32} {v3 : Int32} {S : St} {Q : Int32 → St → Prop} (C : CX p s m args meth c b D cy cX11_act RX11 4 (some .int)) (hE : s.heap.size + 0 ≤ b + G.2.2) (t_v0 : ok G 10 v0) (h : f_X11_act G v0 v1 v2 v3 Q S) : J p l e rm_X11_act s m args below meth c b D cy 4 (zI b D cy below args s G Q) 0 0 G S 0 [(0, .ref (b + v0)), (1, .int v1), (2, .int v2), (3, .int v3)] [] := by
  unfold f_X11_act at h
  refine jB C [(.iload_n 1, 1, 0)] 1 [(0, .ref (b + v0)), (1, .int v1), (2, .int v2), (3, .int v3)] [.int v1] (by decide +kernel) rfl rfl ?_
  by_cases c11_0 : v1 = 0
  · have h := it1 h c11_0
    refine jTabIn C 32 0 (by decide +kernel : decode cX11_act 1 = .ok (.tableswitch 58 0 3 #[31, 39, 46, 52], 31)) c11_0 ⟨rfl, rfl, rfl, rfl⟩ ?_
    refine jB C [(.aload_n 0, 1, 0), (.iload_n 2, 1, 0), (.iload_n 3, 1, 0), (.iconst 1, 1, 1)] 36 [(0, .ref (b + v0)), (1, .int v1), (2, .int v2), (3, .int v3)] [.int 1, .int v3, .int v2, .ref (b + v0)] (by decide +kernel) rfl rfl ?_
    refine jcV_I C 39 (rest := []) (ok_X11_sinNow t_v0 h) (by decide +kernel : decode cX11_act 36 = .ok (.invokevirtual 467, 3)) rfl wd_1642 wd_1644 wp_143 wd_12 wd_1645 ⟨rfl, rfl⟩ hd_X11_sinNow ⟨Nat.le_of_ble_eq_true rfl, Nat.le_of_ble_eq_true rfl⟩ t_v0 kX11 (by decide) rfl rfl rfl (Nat.le_of_ble_eq_true rfl) ⟨Nat.zero_le _, Nat.zero_le _⟩ (fun r2 S1 h => ?_)
    exact jRetI C (by decide +kernel : decode cX11_act 39 = .ok (.ireturn, 1)) (Nat.le_refl _) (Nat.le_refl _) ⟨rfl, h⟩
  · have h := it2 h c11_0
    by_cases c11_1 : v1 = 1
    · have h := it1 h c11_1
      refine jTabIn C 40 1 (by decide +kernel : decode cX11_act 1 = .ok (.tableswitch 58 0 3 #[31, 39, 46, 52], 31)) c11_1 ⟨rfl, rfl, rfl, rfl⟩ ?_
      refine jB C [(.aload_n 0, 1, 0), (.iload_n 2, 1, 0), (.iload_n 3, 1, 0)] 43 [(0, .ref (b + v0)), (1, .int v1), (2, .int v2), (3, .int v3)] [.int v3, .int v2, .ref (b + v0)] (by decide +kernel) rfl rfl ?_
      refine jcV_I C 46 (rest := []) (ok_X11_swapNow t_v0 h) (by decide +kernel : decode cX11_act 43 = .ok (.invokevirtual 483, 3)) rfl wd_1675 wd_1677 wp_149 wd_12 wd_1678 ⟨rfl, rfl⟩ hd_X11_swapNow ⟨Nat.le_of_ble_eq_true rfl, Nat.le_of_ble_eq_true rfl⟩ t_v0 kX11 (by decide) rfl rfl rfl (Nat.le_of_ble_eq_true rfl) ⟨Nat.zero_le _, Nat.zero_le _⟩ (fun r4 S3 h => ?_)
      exact jRetI C (by decide +kernel : decode cX11_act 46 = .ok (.ireturn, 1)) (Nat.le_refl _) (Nat.le_refl _) ⟨rfl, h⟩
    · have h := it2 h c11_1
      by_cases c11_2 : v1 = 2
      · have h := it1 h c11_2
        refine jTabIn C 47 2 (by decide +kernel : decode cX11_act 1 = .ok (.tableswitch 58 0 3 #[31, 39, 46, 52], 31)) c11_2 ⟨rfl, rfl, rfl, rfl⟩ ?_
        refine jB C [(.aload_n 0, 1, 0), (.iload_n 2, 1, 0)] 49 [(0, .ref (b + v0)), (1, .int v1), (2, .int v2), (3, .int v3)] [.int v2, .ref (b + v0)] (by decide +kernel) rfl rfl ?_
        refine jcV_I C 52 (rest := []) (ok_X11_grindNow t_v0 h) (by decide +kernel : decode cX11_act 49 = .ok (.invokevirtual 477, 3)) rfl wd_1659 wd_1661 wp_146 wd_12 wd_1662 ⟨rfl, rfl⟩ hd_X11_grindNow ⟨Nat.le_of_ble_eq_true rfl, Nat.le_of_ble_eq_true rfl⟩ t_v0 kX11 (by decide) rfl rfl rfl (Nat.le_of_ble_eq_true rfl) ⟨Nat.zero_le _, Nat.zero_le _⟩ (fun r6 S5 h => ?_)
        exact jRetI C (by decide +kernel : decode cX11_act 52 = .ok (.ireturn, 1)) (Nat.le_refl _) (Nat.le_refl _) ⟨rfl, h⟩
      · have h := it2 h c11_2
        by_cases c11_3 : v1 = 3
        · have h := it1 h c11_3
          refine jTabIn C 53 3 (by decide +kernel : decode cX11_act 1 = .ok (.tableswitch 58 0 3 #[31, 39, 46, 52], 31)) c11_3 ⟨rfl, rfl, rfl, rfl⟩ ?_
          refine jB C [(.aload_n 0, 1, 0), (.iload_n 2, 1, 0)] 55 [(0, .ref (b + v0)), (1, .int v1), (2, .int v2), (3, .int v3)] [.int v2, .ref (b + v0)] (by decide +kernel) rfl rfl ?_
          refine jcV_I C 58 (rest := []) (ok_X11_clothNow t_v0 h) (by decide +kernel : decode cX11_act 55 = .ok (.invokevirtual 486, 3)) rfl wd_1687 wd_1689 wp_151 wd_12 wd_1690 ⟨rfl, rfl⟩ hd_X11_clothNow ⟨Nat.le_of_ble_eq_true rfl, Nat.le_of_ble_eq_true rfl⟩ t_v0 kX11 (by decide) rfl rfl rfl (Nat.le_of_ble_eq_true rfl) ⟨Nat.zero_le _, Nat.zero_le _⟩ (fun r8 S7 h => ?_)
          exact jRetI C (by decide +kernel : decode cX11_act 58 = .ok (.ireturn, 1)) (Nat.le_refl _) (Nat.le_refl _) ⟨rfl, h⟩
        · have h := it2 h c11_3
          refine jTabOut C 59 (by decide +kernel : decode cX11_act 1 = .ok (.tableswitch 58 0 3 #[31, 39, 46, 52], 31)) rfl (by have := lv_neT c11_0 (a := 0) rfl; have := lv_neT c11_1 (a := 1) rfl; have := lv_neT c11_2 (a := 2) rfl; have := lv_neT c11_3 (a := 3) rfl; omega) ?_
          refine jB C [(.aload_n 0, 1, 0)] 60 [(0, .ref (b + v0)), (1, .int v1), (2, .int v2), (3, .int v3)] [.ref (b + v0)] (by decide +kernel) rfl rfl ?_
          refine jcV_I C 63 (rest := []) (ok_X11_passNow t_v0 h) (by decide +kernel : decode cX11_act 60 = .ok (.invokevirtual 492, 3)) rfl wd_1695 wd_1697 wp_152 wd_12 wd_1698 ⟨rfl, rfl⟩ hd_X11_passNow ⟨Nat.le_of_ble_eq_true rfl, Nat.le_of_ble_eq_true rfl⟩ t_v0 kX11 (by decide) rfl rfl rfl (Nat.le_of_ble_eq_true rfl) ⟨Nat.zero_le _, Nat.zero_le _⟩ (fun r10 S9 h => ?_)
          exact jRetI C (by decide +kernel : decode cX11_act 63 = .ok (.ireturn, 1)) (Nat.le_refl _) (Nat.le_refl _) ⟨rfl, h⟩
theorem ok_X11_act {G : Gm} {v0 : Nat} {v1 : Int32} {v2 : Int32} {v3 : Int32} {S : St} {Q : Int32 → St → Prop}  (t_v0 : ok G 10 v0) (h : f_X11_act G v0 v1 v2 v3 Q S) : MT yX11_act cX11_act 4 (some .int) rm_X11_act 0 0 (fun b => [.ref (b + v0), .int v1, .int v2, .int v3]) G S (QI (fun r G1 S1 => G1 = G ∧ Q r S1)) := MT.ofJ (by decide +kernel) (fun b => [(0, .ref (b + v0)), (1, .int v1), (2, .int v2), (3, .int v3)]) (fun b => rfl) (fun b => Nat.le_of_ble_eq_true rfl) (fun l b D cy p e s m below meth c C hE hn => j_X11_act C hE t_v0 h)
theorem hd_X11_act : yX11_act.cls ≠ "java/lang/invoke/MethodHandle" ∧ yX11_act.cls ≠ "java/lang/invoke/VarHandle" ∧ (parseMethodDescriptor yX11_act.desc).map (fun d => d.parameters.length) = some 3 := by decide +kernel
abbrev rm_X11_alike : Room := { frames := 3, cells := 0, slots := 0, locals := 66 }
set_option maxHeartbeats 4000000 in
set_option maxRecDepth 100000 in
theorem j_X11_alike_19_n {p : Program} {l : Launch} {e : Env} {s : State} {m : MethodId} {args : Array Value} {below : List Frame} {meth : Method} {c : Code} {b : Nat} {D : va_G} {cy : Nat → ClassId} {G : Gm} {v0 : Nat} {v1 : Int32} {Q : Int32 → St → Prop} (C : CX p s m args meth c b D cy cX11_alike RX11 4 (some .int)) (hE : s.heap.size + 0 ≤ b + G.2.2) (t_v0 : ok G 10 v0) : ∀ k (v2 : Int32) (v3 : Int32) S, f_X11_alike_19_n G v0 v1 Q k v2 v3 S → J p l e rm_X11_alike s m args below meth c b D cy 4 (zI b D cy below args s G Q) 0 0 G S 19 [(0, .ref (b + v0)), (1, .int v1), (2, .int v2), (3, .int v3)] [] := by
  intro k
  induction k with
  | zero => intro v2 v3 S h; exact h.elim
  | succ k ih =>
    intro v2 v3 S h
    unfold f_X11_alike_19_n at h
    refine jB C [(.iload_n 3, 1, 0), (.aload_n 0, 1, 0)] 21 [(0, .ref (b + v0)), (1, .int v1), (2, .int v2), (3, .int v3)] [.ref (b + v0), .int v3] (by decide +kernel) rfl rfl ?_
    obtain ⟨a1, e_a1, h⟩ := h
    refine jGetR C 24 (by decide +kernel : decode cX11_alike 21 = .ok (.getfield 16, 3)) rfl t_v0 kX11 4 (by decide) rfl rfl (by decide) wd_1158 e_a1 rfl (fun t_a1 => ?_)
    refine jB C [(.iconst 0, 1, 0)] 25 [(0, .ref (b + v0)), (1, .int v1), (2, .int v2), (3, .int v3)] [.int 0, .ref (b + a1), .int v3] (by decide +kernel) rfl rfl ?_
    obtain ⟨y2, h⟩ := h
    refine jIald C 26 (by decide +kernel : decode cX11_alike 25 = .ok (.iaload, 1)) rfl t_a1 y2 ?_
    refine jIcmp_ge C 29 56 (by decide +kernel : decode cX11_alike 26 = .ok (.if_icmp .ge 30, 3)) rfl rfl (fun c3 => ?_) (fun c3 => ?_)
    · have h := it1 h c3
      refine jB C [(.iload_n 2, 1, 0)] 57 [(0, .ref (b + v0)), (1, .int v1), (2, .int v2), (3, .int v3)] [.int v2] (by decide +kernel) rfl rfl ?_
      exact jRetI C (by decide +kernel : decode cX11_alike 57 = .ok (.ireturn, 1)) (Nat.le_refl _) (Nat.le_refl _) ⟨rfl, h⟩
    · have h := it2 h c3
      refine jB C [(.iload_n 2, 1, 0), (.aload_n 0, 1, 0), (.iload_n 3, 1, 0)] 32 [(0, .ref (b + v0)), (1, .int v1), (2, .int v2), (3, .int v3)] [.int v3, .ref (b + v0), .int v2] (by decide +kernel) rfl rfl ?_
      refine jcV_I C 35 (rest := [.int v2]) (ok_X11_sightOf t_v0 h) (by decide +kernel : decode cX11_alike 32 = .ok (.invokevirtual 215, 3)) rfl wd_1386 wd_1388 wp_105 wd_12 wd_1389 ⟨rfl, rfl⟩ hd_X11_sightOf ⟨Nat.le_of_ble_eq_true rfl, Nat.le_of_ble_eq_true rfl⟩ t_v0 kX11 (by decide) rfl rfl rfl (Nat.le_of_ble_eq_true rfl) ⟨Nat.zero_le _, Nat.zero_le _⟩ (fun r5 S4 h => ?_)
      refine jB C [(.aload_n 0, 1, 0), (.iload_n 1, 1, 0)] 37 [(0, .ref (b + v0)), (1, .int v1), (2, .int v2), (3, .int v3)] [.int v1, .ref (b + v0), .int r5, .int v2] (by decide +kernel) rfl rfl ?_
      refine jcV_I C 40 (rest := [.int r5, .int v2]) (ok_X11_sightOf t_v0 h) (by decide +kernel : decode cX11_alike 37 = .ok (.invokevirtual 215, 3)) rfl wd_1386 wd_1388 wp_105 wd_12 wd_1389 ⟨rfl, rfl⟩ hd_X11_sightOf ⟨Nat.le_of_ble_eq_true rfl, Nat.le_of_ble_eq_true rfl⟩ t_v0 kX11 (by decide) rfl rfl rfl (Nat.le_of_ble_eq_true rfl) ⟨Nat.zero_le _, Nat.zero_le _⟩ (fun r7 S6 h => ?_)
      refine jIcmp_ne C 43 47 (by decide +kernel : decode cX11_alike 40 = .ok (.if_icmp .ne 7, 3)) rfl rfl (fun c8 => ?_) (fun c8 => ?_)
      · have h := it2 h c8
        refine jB C [(.iconst 0, 1, 0), (.iadd, 1, 0)] 49 [(0, .ref (b + v0)), (1, .int v1), (2, .int v2), (3, .int v3)] [.int (v2 + 0)] (by decide +kernel) rfl rfl ?_
        refine jTopI (fun x9 e_x9 => ?_)
        have h := h x9 e_x9
        refine jB C [(.istore_n 2, 1, 0), (.iinc 3 1, 3, 1)] 53 [(3, .int (v3 + 1)), (2, .int x9), (0, .ref (b + v0)), (1, .int v1)] [] (by decide +kernel) rfl rfl ?_
        refine jGoto C 19 (by decide +kernel : decode cX11_alike 53 = .ok (.goto (-34), 3)) rfl ?_
        refine jSub [2, 3, 1, 0] rfl ?_
        exact ih x9 (v3 + 1) S6 h
      · have h := it1 h c8
        refine jB C [(.iconst 1, 1, 1)] 44 [(0, .ref (b + v0)), (1, .int v1), (2, .int v2), (3, .int v3)] [.int 1, .int v2] (by decide +kernel) rfl rfl ?_
        refine jGoto C 48 (by decide +kernel : decode cX11_alike 44 = .ok (.goto 4, 3)) rfl ?_
        refine jB C [(.iadd, 1, 0)] 49 [(0, .ref (b + v0)), (1, .int v1), (2, .int v2), (3, .int v3)] [.int (v2 + 1)] (by decide +kernel) rfl rfl ?_
        refine jTopI (fun x10 e_x10 => ?_)
        have h := h x10 e_x10
        refine jB C [(.istore_n 2, 1, 0), (.iinc 3 1, 3, 1)] 53 [(3, .int (v3 + 1)), (2, .int x10), (0, .ref (b + v0)), (1, .int v1)] [] (by decide +kernel) rfl rfl ?_
        refine jGoto C 19 (by decide +kernel : decode cX11_alike 53 = .ok (.goto (-34), 3)) rfl ?_
        refine jSub [2, 3, 1, 0] rfl ?_
        exact ih x10 (v3 + 1) S6 h
theorem j_X11_alike_19 {p : Program} {l : Launch} {e : Env} {s : State} {m : MethodId} {args : Array Value} {below : List Frame} {meth : Method} {c : Code} {b : Nat} {D : va_G} {cy : Nat → ClassId} {G : Gm} {v0 : Nat} {v1 : Int32} {v2 : Int32} {v3 : Int32} {S : St} {Q : Int32 → St → Prop} (C : CX p s m args meth c b D cy cX11_alike RX11 4 (some .int)) (hE : s.heap.size + 0 ≤ b + G.2.2) (t_v0 : ok G 10 v0) (h : f_X11_alike_19 G v0 v1 Q v2 v3 S) : J p l e rm_X11_alike s m args below meth c b D cy 4 (zI b D cy below args s G Q) 0 0 G S 19 [(0, .ref (b + v0)), (1, .int v1), (2, .int v2), (3, .int v3)] [] := by
  obtain ⟨k, h⟩ := h
  exact j_X11_alike_19_n C hE t_v0 k v2 v3 S h
set_option maxHeartbeats 4000000 in
set_option maxRecDepth 100000 in
theorem j_X11_alike {p : Program} {l : Launch} {e : Env} {s : State} {m : MethodId} {args : Array Value} {below : List Frame} {meth : Method} {c : Code} {b : Nat} {D : va_G} {cy : Nat → ClassId} {G : Gm} {v0 : Nat} {v1 : Int32} {S : St} {Q : Int32 → St → Prop} (C : CX p s m args meth c b D cy cX11_alike RX11 4 (some .int)) (hE : s.heap.size + 0 ≤ b + G.2.2) (t_v0 : ok G 10 v0) (h : f_X11_alike G v0 v1 Q S) : J p l e rm_X11_alike s m args below meth c b D cy 4 (zI b D cy below args s G Q) 0 0 G S 0 [(0, .ref (b + v0)), (1, .int v1)] [] := by
  unfold f_X11_alike at h
  refine jB C [(.aload_n 0, 1, 0), (.iconst 0, 1, 0)] 2 [(0, .ref (b + v0)), (1, .int v1)] [.int 0, .ref (b + v0)] (by decide +kernel) rfl rfl ?_
  refine jPutI C 5 (by decide +kernel : decode cX11_alike 2 = .ok (.putfield 165, 3)) rfl hE t_v0 kX11 0 (by decide) rfl rfl (by decide) rfl wd_1154 rfl rfl rfl ?_
  refine jTopS (fun S1 e_S1 => ?_)
  have h := h S1 e_S1
  refine jB C [(.aload_n 0, 1, 0), (.iload_n 1, 1, 0)] 7 [(0, .ref (b + v0)), (1, .int v1)] [.int v1, .ref (b + v0)] (by decide +kernel) rfl rfl ?_
  refine jcV_I C 10 (rest := []) (ok_X11_isPerson t_v0 h) (by decide +kernel : decode cX11_alike 7 = .ok (.invokevirtual 209, 3)) rfl wd_1376 wd_1378 wp_103 wd_12 wd_1379 ⟨rfl, rfl⟩ hd_X11_isPerson ⟨Nat.le_of_ble_eq_true rfl, Nat.le_of_ble_eq_true rfl⟩ t_v0 kX11 (by decide) rfl rfl rfl (Nat.le_of_ble_eq_true rfl) ⟨Nat.zero_le _, Nat.zero_le _⟩ (fun r3 S2 h => ?_)
  refine jIf_ne C 13 15 (by decide +kernel : decode cX11_alike 10 = .ok (.ifCond .ne 5, 3)) rfl rfl (fun c4 => ?_) (fun c4 => ?_)
  · have h := it2 h c4
    refine jB C [(.iconst 0, 1, 0), (.istore_n 2, 1, 0), (.iconst 0, 1, 0), (.istore_n 3, 1, 0)] 19 [(3, .int 0), (2, .int 0), (0, .ref (b + v0)), (1, .int v1)] [] (by decide +kernel) rfl rfl ?_
    refine jSub [2, 3, 1, 0] rfl ?_
    exact j_X11_alike_19 C hE t_v0 h
  · have h := it1 h c4
    refine jB C [(.iconst (-1), 1, (-1))] 14 [(0, .ref (b + v0)), (1, .int v1)] [.int (-1)] (by decide +kernel) rfl rfl ?_
    exact jRetI C (by decide +kernel : decode cX11_alike 14 = .ok (.ireturn, 1)) (Nat.le_refl _) (Nat.le_refl _) ⟨rfl, h⟩
theorem ok_X11_alike {G : Gm} {v0 : Nat} {v1 : Int32} {S : St} {Q : Int32 → St → Prop}  (t_v0 : ok G 10 v0) (h : f_X11_alike G v0 v1 Q S) : MT yX11_alike cX11_alike 4 (some .int) rm_X11_alike 0 0 (fun b => [.ref (b + v0), .int v1]) G S (QI (fun r G1 S1 => G1 = G ∧ Q r S1)) := MT.ofJ (by decide +kernel) (fun b => [(0, .ref (b + v0)), (1, .int v1)]) (fun b => rfl) (fun b => Nat.le_of_ble_eq_true rfl) (fun l b D cy p e s m below meth c C hE hn => j_X11_alike C hE t_v0 h)
theorem hd_X11_alike : yX11_alike.cls ≠ "java/lang/invoke/MethodHandle" ∧ yX11_alike.cls ≠ "java/lang/invoke/VarHandle" ∧ (parseMethodDescriptor yX11_alike.desc).map (fun d => d.parameters.length) = some 1 := by decide +kernel
abbrev rm_X11_allSee : Room := { frames := 2, cells := 0, slots := 0, locals := 45 }
set_option maxHeartbeats 4000000 in
set_option maxRecDepth 100000 in
theorem j_X11_allSee_4_n {p : Program} {l : Launch} {e : Env} {s : State} {m : MethodId} {args : Array Value} {below : List Frame} {meth : Method} {c : Code} {b : Nat} {D : va_G} {cy : Nat → ClassId} {G : Gm} {v0 : Nat} {v1 : Int32} {Q : Int32 → St → Prop} (C : CX p s m args meth c b D cy cX11_allSee RX11 4 (some .boolean)) (hE : s.heap.size + 0 ≤ b + G.2.2) (t_v0 : ok G 10 v0) : ∀ k (v2 : Int32) (v3 : Int32) S, f_X11_allSee_4_n G v0 v1 Q k v2 v3 S → J p l e rm_X11_allSee s m args below meth c b D cy 4 (zI b D cy below args s G Q) 0 0 G S 4 [(0, .ref (b + v0)), (1, .int v1), (2, .int v2), (3, .int v3)] [] := by
  intro k
  induction k with
  | zero => intro v2 v3 S h; exact h.elim
  | succ k ih =>
    intro v2 v3 S h
    unfold f_X11_allSee_4_n at h
    refine jB C [(.iload_n 3, 1, 0), (.aload_n 0, 1, 0)] 6 [(0, .ref (b + v0)), (1, .int v1), (2, .int v2), (3, .int v3)] [.ref (b + v0), .int v3] (by decide +kernel) rfl rfl ?_
    obtain ⟨a1, e_a1, h⟩ := h
    refine jGetR C 9 (by decide +kernel : decode cX11_allSee 6 = .ok (.getfield 16, 3)) rfl t_v0 kX11 4 (by decide) rfl rfl (by decide) wd_1158 e_a1 rfl (fun t_a1 => ?_)
    refine jB C [(.iconst 1, 1, 1)] 10 [(0, .ref (b + v0)), (1, .int v1), (2, .int v2), (3, .int v3)] [.int 1, .ref (b + a1), .int v3] (by decide +kernel) rfl rfl ?_
    obtain ⟨y2, h⟩ := h
    refine jIald C 11 (by decide +kernel : decode cX11_allSee 10 = .ok (.iaload, 1)) rfl t_a1 y2 ?_
    refine jIcmp_ge C 14 62 (by decide +kernel : decode cX11_allSee 11 = .ok (.if_icmp .ge 51, 3)) rfl rfl (fun c3 => ?_) (fun c3 => ?_)
    · have h := it1 h c3
      refine jB C [(.iload_n 2, 1, 0)] 63 [(0, .ref (b + v0)), (1, .int v1), (2, .int v2), (3, .int v3)] [.int v2] (by decide +kernel) rfl rfl ?_
      exact jRetZ C (by decide +kernel : decode cX11_allSee 63 = .ok (.ireturn, 1)) (Nat.le_refl _) (Nat.le_refl _) h.1 ⟨rfl, h.2⟩
    · have h := it2 h c3
      refine jB C [(.iload_n 2, 1, 0)] 15 [(0, .ref (b + v0)), (1, .int v1), (2, .int v2), (3, .int v3)] [.int v2] (by decide +kernel) rfl rfl ?_
      refine jIf_eq C 18 62 (by decide +kernel : decode cX11_allSee 15 = .ok (.ifCond .eq 47, 3)) rfl rfl (fun c4 => ?_) (fun c4 => ?_)
      · have h := it1 h c4
        refine jB C [(.iload_n 2, 1, 0)] 63 [(0, .ref (b + v0)), (1, .int v1), (2, .int v2), (3, .int v3)] [.int v2] (by decide +kernel) rfl rfl ?_
        exact jRetZ C (by decide +kernel : decode cX11_allSee 63 = .ok (.ireturn, 1)) (Nat.le_refl _) (Nat.le_refl _) h.1 ⟨rfl, h.2⟩
      · have h := it2 h c4
        refine jB C [(.aload_n 0, 1, 0), (.aload_n 0, 1, 0)] 20 [(0, .ref (b + v0)), (1, .int v1), (2, .int v2), (3, .int v3)] [.ref (b + v0), .ref (b + v0)] (by decide +kernel) rfl rfl ?_
        obtain ⟨a5, e_a5, h⟩ := h
        refine jGetR C 23 (by decide +kernel : decode cX11_allSee 20 = .ok (.getfield 16, 3)) rfl t_v0 kX11 4 (by decide) rfl rfl (by decide) wd_1158 e_a5 rfl (fun t_a5 => ?_)
        refine jB C [(.bipush 68, 2, 68), (.iconst 2, 1, 2), (.iload_n 3, 1, 0), (.imul, 1, 0), (.iadd, 1, 0)] 29 [(0, .ref (b + v0)), (1, .int v1), (2, .int v2), (3, .int v3)] [.int (68 + (2 * v3)), .ref (b + a5), .ref (b + v0)] (by decide +kernel) rfl rfl ?_
        obtain ⟨y6, h⟩ := h
        refine jIald C 30 (by decide +kernel : decode cX11_allSee 29 = .ok (.iaload, 1)) rfl t_a5 y6 ?_
        refine jB C [(.iload_n 1, 1, 0)] 31 [(0, .ref (b + v0)), (1, .int v1), (2, .int v2), (3, .int v3)] [.int v1, .int (S.1 a5 (68 + (2 * v3)).toNatClampNeg), .ref (b + v0)] (by decide +kernel) rfl rfl ?_
        refine jcV_I C 34 (rest := []) (ok_X11_through t_v0 h) (by decide +kernel : decode cX11_allSee 31 = .ok (.invokevirtual 199, 3)) rfl wd_1390 wd_1392 wp_106 wd_12 wd_1393 ⟨rfl, rfl⟩ hd_X11_through ⟨Nat.le_of_ble_eq_true rfl, Nat.le_of_ble_eq_true rfl⟩ t_v0 kX11 (by decide) rfl rfl rfl (Nat.le_of_ble_eq_true rfl) ⟨Nat.zero_le _, Nat.zero_le _⟩ (fun r8 S7 h => ?_)
        refine jB C [(.aload_n 0, 1, 0)] 35 [(0, .ref (b + v0)), (1, .int v1), (2, .int v2), (3, .int v3)] [.ref (b + v0), .int r8] (by decide +kernel) rfl rfl ?_
        obtain ⟨a9, e_a9, h⟩ := h
        refine jGetR C 38 (by decide +kernel : decode cX11_allSee 35 = .ok (.getfield 16, 3)) rfl t_v0 kX11 4 (by decide) rfl rfl (by decide) wd_1158 e_a9 rfl (fun t_a9 => ?_)
        refine jB C [(.bipush 68, 2, 68), (.iconst 2, 1, 2), (.iload_n 3, 1, 0), (.imul, 1, 0), (.iadd, 1, 0), (.iconst 1, 1, 1), (.iadd, 1, 0)] 46 [(0, .ref (b + v0)), (1, .int v1), (2, .int v2), (3, .int v3)] [.int ((68 + (2 * v3)) + 1), .ref (b + a9), .int r8] (by decide +kernel) rfl rfl ?_
        obtain ⟨y10, h⟩ := h
        refine jIald C 47 (by decide +kernel : decode cX11_allSee 46 = .ok (.iaload, 1)) rfl t_a9 y10 ?_
        refine jIcmp_ne C 50 54 (by decide +kernel : decode cX11_allSee 47 = .ok (.if_icmp .ne 7, 3)) rfl rfl (fun c11 => ?_) (fun c11 => ?_)
        · have h := it2 h c11
          refine jB C [(.iconst 0, 1, 0), (.istore_n 2, 1, 0), (.iinc 3 1, 3, 1)] 59 [(3, .int (v3 + 1)), (2, .int 0), (0, .ref (b + v0)), (1, .int v1)] [] (by decide +kernel) rfl rfl ?_
          refine jGoto C 4 (by decide +kernel : decode cX11_allSee 59 = .ok (.goto (-55), 3)) rfl ?_
          refine jSub [2, 3, 1, 0] rfl ?_
          exact ih 0 (v3 + 1) S7 h
        · have h := it1 h c11
          refine jB C [(.iconst 1, 1, 1)] 51 [(0, .ref (b + v0)), (1, .int v1), (2, .int v2), (3, .int v3)] [.int 1] (by decide +kernel) rfl rfl ?_
          refine jGoto C 55 (by decide +kernel : decode cX11_allSee 51 = .ok (.goto 4, 3)) rfl ?_
          refine jB C [(.istore_n 2, 1, 0), (.iinc 3 1, 3, 1)] 59 [(3, .int (v3 + 1)), (2, .int 1), (0, .ref (b + v0)), (1, .int v1)] [] (by decide +kernel) rfl rfl ?_
          refine jGoto C 4 (by decide +kernel : decode cX11_allSee 59 = .ok (.goto (-55), 3)) rfl ?_
          refine jSub [2, 3, 1, 0] rfl ?_
          exact ih 1 (v3 + 1) S7 h
theorem j_X11_allSee_4 {p : Program} {l : Launch} {e : Env} {s : State} {m : MethodId} {args : Array Value} {below : List Frame} {meth : Method} {c : Code} {b : Nat} {D : va_G} {cy : Nat → ClassId} {G : Gm} {v0 : Nat} {v1 : Int32} {v2 : Int32} {v3 : Int32} {S : St} {Q : Int32 → St → Prop} (C : CX p s m args meth c b D cy cX11_allSee RX11 4 (some .boolean)) (hE : s.heap.size + 0 ≤ b + G.2.2) (t_v0 : ok G 10 v0) (h : f_X11_allSee_4 G v0 v1 Q v2 v3 S) : J p l e rm_X11_allSee s m args below meth c b D cy 4 (zI b D cy below args s G Q) 0 0 G S 4 [(0, .ref (b + v0)), (1, .int v1), (2, .int v2), (3, .int v3)] [] := by
  obtain ⟨k, h⟩ := h
  exact j_X11_allSee_4_n C hE t_v0 k v2 v3 S h
set_option maxHeartbeats 4000000 in
set_option maxRecDepth 100000 in
theorem j_X11_allSee {p : Program} {l : Launch} {e : Env} {s : State} {m : MethodId} {args : Array Value} {below : List Frame} {meth : Method} {c : Code} {b : Nat} {D : va_G} {cy : Nat → ClassId} {G : Gm} {v0 : Nat} {v1 : Int32} {S : St} {Q : Int32 → St → Prop} (C : CX p s m args meth c b D cy cX11_allSee RX11 4 (some .boolean)) (hE : s.heap.size + 0 ≤ b + G.2.2) (t_v0 : ok G 10 v0) (h : f_X11_allSee G v0 v1 Q S) : J p l e rm_X11_allSee s m args below meth c b D cy 4 (zI b D cy below args s G Q) 0 0 G S 0 [(0, .ref (b + v0)), (1, .int v1)] [] := by
  unfold f_X11_allSee at h
  refine jB C [(.iconst 1, 1, 1), (.istore_n 2, 1, 0), (.iconst 0, 1, 0), (.istore_n 3, 1, 0)] 4 [(3, .int 0), (2, .int 1), (0, .ref (b + v0)), (1, .int v1)] [] (by decide +kernel) rfl rfl ?_
  refine jSub [2, 3, 1, 0] rfl ?_
  exact j_X11_allSee_4 C hE t_v0 h
theorem ok_X11_allSee {G : Gm} {v0 : Nat} {v1 : Int32} {S : St} {Q : Int32 → St → Prop}  (t_v0 : ok G 10 v0) (h : f_X11_allSee G v0 v1 Q S) : MT yX11_allSee cX11_allSee 4 (some .boolean) rm_X11_allSee 0 0 (fun b => [.ref (b + v0), .int v1]) G S (QI (fun r G1 S1 => G1 = G ∧ Q r S1)) := MT.ofJ (by decide +kernel) (fun b => [(0, .ref (b + v0)), (1, .int v1)]) (fun b => rfl) (fun b => Nat.le_of_ble_eq_true rfl) (fun l b D cy p e s m below meth c C hE hn => j_X11_allSee C hE t_v0 h)
theorem hd_X11_allSee : yX11_allSee.cls ≠ "java/lang/invoke/MethodHandle" ∧ yX11_allSee.cls ≠ "java/lang/invoke/VarHandle" ∧ (parseMethodDescriptor yX11_allSee.desc).map (fun d => d.parameters.length) = some 1 := by decide +kernel
