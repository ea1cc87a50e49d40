def f_X6_simplePart_151 (G : Gm) (u0 : Int32) (u1 : Int32) (u2 : Nat) (Q : St → Prop) (S : St) : Prop :=
  f_X8_put G u2 u1 u0 (fun r2 S1 => Q S1) S
def f_X6_simplePart_141 (G : Gm) (v1 : Int32) (v2 : Int32) (u0 : Int32) (u1 : Nat) (Q : St → Prop) (S : St) : Prop :=
  (if v2 = (-1) then f_X6_simplePart_151 G v1 u0 u1 Q S else f_X6_simplePart_151 G v2 u0 u1 Q S)
def f_X6_simplePart_127 (G : Gm) (v0 : Nat) (v1 : Int32) (v2 : Int32) (Q : St → Prop) (S : St) : Prop :=
  (∃ a1, S.2.2 v0 10 = some a1 ∧ (if v2 = (-1) then f_X6_simplePart_141 G v1 v2 0 a1 Q S else f_X6_simplePart_141 G v1 v2 1 a1 Q S))
def f_X6_simplePart_108 (G : Gm) (v0 : Nat) (Q : St → Prop) (S : St) : Prop :=
  f_X6_fail G v0 (fun S1 => Q S1) S
def f_X6_simplePart_61 (G : Gm) (v0 : Nat) (v1 : Int32) (v2 : Int32) (Q : St → Prop) (S : St) : Prop :=
  (∀ S1, S1 = uI S v0 7 ((S.1 v0 7) + 1) → (∀ S2, S2 = uI S1 v0 6 ((S1.1 v0 6) + 1) → (if (S2.1 v0 8) = 0 then (if v2 < 4 then f_X6_simplePart_127 G v0 v1 v2 Q S2 else f_X6_numberHere G v0 (fun r6 S5 => (if r6 < 0 then f_X6_simplePart_108 G v0 Q S5 else (if r6 < 6 then (∀ S9, S9 = uI S5 v0 6 ((S5.1 v0 6) + 1) → (∀ x10 : Int32, x10 = v2 + r6 → f_X6_simplePart_127 G v0 v1 x10 Q S9)) else f_X6_simplePart_108 G v0 Q S5))) S2) else f_X6_simplePart_127 G v0 v1 v2 Q S2)))
def f_X6_simplePart_56 (G : Gm) (v0 : Nat) (Q : St → Prop) (S : St) : Prop :=
  f_X6_fail G v0 (fun S1 => Q S1) S
def f_X6_simplePart_29 (G : Gm) (v0 : Nat) (v1 : Int32) (u0 : Int32) (Q : St → Prop) (S : St) : Prop :=
  (if 50 ≤ (S.1 v0 7) then f_X6_simplePart_56 G v0 Q S else (if 1000 < v1 then f_X6_simplePart_56 G v0 Q S else (if v1 = (-1) then (if u0 = (-1) then f_X6_simplePart_56 G v0 Q S else f_X6_simplePart_61 G v0 v1 u0 Q S) else f_X6_simplePart_61 G v0 v1 u0 Q S)))
def f_X6_simplePart (G : Gm) (v0 : Nat) (Q : St → Prop) (S : St) : Prop :=
  f_X6_numberHere G v0 (fun r2 S1 => (if (S1.1 v0 8) = 0 then f_X6_here G v0 (fun r5 S4 => f_X6_orderWord G r5 (fun r7 S6 => f_X6_simplePart_29 G v0 r2 r7 Q S6) S4) S1 else f_X6_here G v0 (fun r9 S8 => f_X6_lawWord G r9 (fun r11 S10 => f_X6_simplePart_29 G v0 r2 r11 Q S10) S8) S1)) S
abbrev rm_X6_simplePart : Room := { frames := 1, cells := 0, slots := 0, locals := 24 }
set_option maxHeartbeats 4000000 in
set_option maxRecDepth 100000 in
theorem j_X6_simplePart_151 {p : Program} {l : Launch} {e : Env} {s : State} {m : MethodId} {args : Array Value} {below : List Frame} {meth : Method} {c : Code} {b : Nat} {D : va_G} {cy : Nat → ClassId} {G : Gm} {u0 : Int32} {u1 : Int32} {u2 : Nat} {S : St} {Q : St → Prop} (C : CX p s m args meth c b D cy cX6_simplePart RX6 4 none) (hE : s.heap.size + 0 ≤ b + G.2.2) (t_u2 : ok G 7 u2) (h : f_X6_simplePart_151 G u0 u1 u2 Q S) : J p l e rm_X6_simplePart s m args below meth c b D cy 4 (zV b D cy below args s G Q) 0 0 G S 151 [] [.int u0, .int u1, .ref (b + u2)] := by
  unfold f_X6_simplePart_151 at h
  refine jcVN_I C 154 (rest := []) (ok_X8_put t_u2 h) (by decide +kernel : decode cX6_simplePart 151 = .ok (.invokevirtual 137, 3)) rfl wn_718 wd_720 wp_51 wd_10 wd_721 ⟨rfl, rfl⟩ hd_X8_put ⟨Nat.le_of_ble_eq_true rfl, Nat.le_of_ble_eq_true rfl⟩ t_u2 kX8 (by decide) rfl rfl rfl (Nat.le_of_ble_eq_true rfl) ⟨Nat.zero_le _, Nat.zero_le _⟩ (fun r2 S1 h => ?_)
  refine jB C [(.pop, 1, 0)] 155 [] [] (by decide +kernel) rfl rfl ?_
  exact jRetV C (by decide +kernel : decode cX6_simplePart 155 = .ok (.return_, 1)) (Nat.le_refl _) (Nat.le_refl _) ⟨rfl, h⟩
set_option maxHeartbeats 4000000 in
set_option maxRecDepth 100000 in
theorem j_X6_simplePart_141 {p : Program} {l : Launch} {e : Env} {s : State} {m : MethodId} {args : Array Value} {below : List Frame} {meth : Method} {c : Code} {b : Nat} {D : va_G} {cy : Nat → ClassId} {G : Gm} {v1 : Int32} {v2 : Int32} {u0 : Int32} {u1 : Nat} {S : St} {Q : St → Prop} (C : CX p s m args meth c b D cy cX6_simplePart RX6 4 none) (hE : s.heap.size + 0 ≤ b + G.2.2) (t_u1 : ok G 7 u1) (h : f_X6_simplePart_141 G v1 v2 u0 u1 Q S) : J p l e rm_X6_simplePart s m args below meth c b D cy 4 (zV b D cy below args s G Q) 0 0 G S 141 [(1, .int v1), (2, .int v2)] [.int u0, .ref (b + u1)] := by
  unfold f_X6_simplePart_141 at h
  refine jB C [(.iload_n 2, 1, 0), (.iconst (-1), 1, (-1))] 143 [(1, .int v1), (2, .int v2)] [.int (-1), .int v2, .int u0, .ref (b + u1)] (by decide +kernel) rfl rfl ?_
  refine jIcmp_ne C 146 150 (by decide +kernel : decode cX6_simplePart 143 = .ok (.if_icmp .ne 7, 3)) rfl rfl (fun c1 => ?_) (fun c1 => ?_)
  · have h := it2 h c1
    refine jB C [(.iload_n 2, 1, 0)] 151 [(1, .int v1), (2, .int v2)] [.int v2, .int u0, .ref (b + u1)] (by decide +kernel) rfl rfl ?_
    refine jSub [] rfl ?_
    exact j_X6_simplePart_151 C hE t_u1 h
  · have h := it1 h c1
    refine jB C [(.iload_n 1, 1, 0)] 147 [(1, .int v1), (2, .int v2)] [.int v1, .int u0, .ref (b + u1)] (by decide +kernel) rfl rfl ?_
    refine jGoto C 151 (by decide +kernel : decode cX6_simplePart 147 = .ok (.goto 4, 3)) rfl ?_
    refine jSub [] rfl ?_
    exact j_X6_simplePart_151 C hE t_u1 h
set_option maxHeartbeats 4000000 in
set_option maxRecDepth 100000 in
theorem j_X6_simplePart_127 {p : Program} {l : Launch} {e : Env} {s : State} {m : MethodId} {args : Array Value} {below : List Frame} {meth : Method} {c : Code} {b : Nat} {D : va_G} {cy : Nat → ClassId} {G : Gm} {v0 : Nat} {v1 : Int32} {v2 : Int32} {S : St} {Q : St → Prop} (C : CX p s m args meth c b D cy cX6_simplePart RX6 4 none) (hE : s.heap.size + 0 ≤ b + G.2.2) (t_v0 : ok G 5 v0) (h : f_X6_simplePart_127 G v0 v1 v2 Q S) : J p l e rm_X6_simplePart s m args below meth c b D cy 4 (zV b D cy below args s G Q) 0 0 G S 127 [(0, .ref (b + v0)), (1, .int v1), (2, .int v2)] [] := by
  unfold f_X6_simplePart_127 at h
  refine jB C [(.aload_n 0, 1, 0)] 128 [(0, .ref (b + v0)), (1, .int v1), (2, .int v2)] [.ref (b + v0)] (by decide +kernel) rfl rfl ?_
  obtain ⟨a1, e_a1, h⟩ := h
  refine jGetR C 131 (by decide +kernel : decode cX6_simplePart 128 = .ok (.getfield 33, 3)) rfl t_v0 kX6 10 (by decide) rfl rfl (by decide) wd_286 e_a1 rfl (fun t_a1 => ?_)
  refine jB C [(.iload_n 2, 1, 0), (.iconst (-1), 1, (-1))] 133 [(0, .ref (b + v0)), (1, .int v1), (2, .int v2)] [.int (-1), .int v2, .ref (b + a1)] (by decide +kernel) rfl rfl ?_
  refine jIcmp_ne C 136 140 (by decide +kernel : decode cX6_simplePart 133 = .ok (.if_icmp .ne 7, 3)) rfl rfl (fun c2 => ?_) (fun c2 => ?_)
  · have h := it2 h c2
    refine jB C [(.iconst 1, 1, 1)] 141 [(0, .ref (b + v0)), (1, .int v1), (2, .int v2)] [.int 1, .ref (b + a1)] (by decide +kernel) rfl rfl ?_
    refine jSub [1, 2] rfl ?_
    exact j_X6_simplePart_141 C hE t_a1 h
  · have h := it1 h c2
    refine jB C [(.iconst 0, 1, 0)] 137 [(0, .ref (b + v0)), (1, .int v1), (2, .int v2)] [.int 0, .ref (b + a1)] (by decide +kernel) rfl rfl ?_
    refine jGoto C 141 (by decide +kernel : decode cX6_simplePart 137 = .ok (.goto 4, 3)) rfl ?_
    refine jSub [1, 2] rfl ?_
    exact j_X6_simplePart_141 C hE t_a1 h
set_option maxHeartbeats 4000000 in
set_option maxRecDepth 100000 in
theorem j_X6_simplePart_108 {p : Program} {l : Launch} {e : Env} {s : State} {m : MethodId} {args : Array Value} {below : List Frame} {meth : Method} {c : Code} {b : Nat} {D : va_G} {cy : Nat → ClassId} {G : Gm} {v0 : Nat} {S : St} {Q : St → Prop} (C : CX p s m args meth c b D cy cX6_simplePart RX6 4 none) (hE : s.heap.size + 0 ≤ b + G.2.2) (t_v0 : ok G 5 v0) (h : f_X6_simplePart_108 G v0 Q S) : J p l e rm_X6_simplePart s m args below meth c b D cy 4 (zV b D cy below args s G Q) 0 0 G S 108 [(0, .ref (b + v0))] [] := by
  unfold f_X6_simplePart_108 at h
  refine jB C [(.aload_n 0, 1, 0)] 109 [(0, .ref (b + v0))] [.ref (b + v0)] (by decide +kernel) rfl rfl ?_
  refine jcV_V C 112 (rest := []) (ok_X6_fail t_v0 h) (by decide +kernel : decode cX6_simplePart 109 = .ok (.invokevirtual 67, 3)) rfl wd_680 wd_682 wp_43 wd_9 wd_683 ⟨rfl, rfl⟩ hd_X6_fail ⟨Nat.le_of_ble_eq_true rfl, Nat.le_of_ble_eq_true rfl⟩ t_v0 kX6 (by decide) rfl rfl rfl (Nat.le_of_ble_eq_true rfl) ⟨Nat.zero_le _, Nat.zero_le _⟩ (fun S1 h => ?_)
  exact jRetV C (by decide +kernel : decode cX6_simplePart 112 = .ok (.return_, 1)) (Nat.le_refl _) (Nat.le_refl _) ⟨rfl, h⟩
set_option maxHeartbeats 4000000 in
set_option maxRecDepth 100000 in
theorem j_X6_simplePart_61 {p : Program} {l : Launch} {e : Env} {s : State} {m : MethodId} {args : Array Value} {below : List Frame} {meth : Method} {c : Code} {b : Nat} {D : va_G} {cy : Nat → ClassId} {G : Gm} {v0 : Nat} {v1 : Int32} {v2 : Int32} {S : St} {Q : St → Prop} (C : CX p s m args meth c b D cy cX6_simplePart RX6 4 none) (hE : s.heap.size + 0 ≤ b + G.2.2) (t_v0 : ok G 5 v0) (h : f_X6_simplePart_61 G v0 v1 v2 Q S) : J p l e rm_X6_simplePart s m args below meth c b D cy 4 (zV b D cy below args s G Q) 0 0 G S 61 [(0, .ref (b + v0)), (1, .int v1), (2, .int v2)] [] := by
  unfold f_X6_simplePart_61 at h
  refine jB C [(.aload_n 0, 1, 0), (.dup, 1, 0)] 63 [(0, .ref (b + v0)), (1, .int v1), (2, .int v2)] [.ref (b + v0), .ref (b + v0)] (by decide +kernel) rfl rfl ?_
  refine jGetI C 66 (by decide +kernel : decode cX6_simplePart 63 = .ok (.getfield 48, 3)) rfl t_v0 kX6 7 (by decide) rfl rfl (by decide) wd_282 ?_
  refine jB C [(.iconst 1, 1, 1), (.iadd, 1, 0)] 68 [(0, .ref (b + v0)), (1, .int v1), (2, .int v2)] [.int ((S.1 v0 7) + 1), .ref (b + v0)] (by decide +kernel) rfl rfl ?_
  refine jPutI C 71 (by decide +kernel : decode cX6_simplePart 68 = .ok (.putfield 48, 3)) rfl hE t_v0 kX6 7 (by decide) rfl rfl (by decide) rfl wd_282 rfl rfl rfl ?_
  refine jTopS (fun S1 e_S1 => ?_)
  have h := h S1 e_S1
  refine jB C [(.aload_n 0, 1, 0), (.dup, 1, 0)] 73 [(0, .ref (b + v0)), (1, .int v1), (2, .int v2)] [.ref (b + v0), .ref (b + v0)] (by decide +kernel) rfl rfl ?_
  refine jGetI C 76 (by decide +kernel : decode cX6_simplePart 73 = .ok (.getfield 51, 3)) rfl t_v0 kX6 6 (by decide) rfl rfl (by decide) wd_281 ?_
  refine jB C [(.iconst 1, 1, 1), (.iadd, 1, 0)] 78 [(0, .ref (b + v0)), (1, .int v1), (2, .int v2)] [.int ((S1.1 v0 6) + 1), .ref (b + v0)] (by decide +kernel) rfl rfl ?_
  refine jPutI C 81 (by decide +kernel : decode cX6_simplePart 78 = .ok (.putfield 51, 3)) rfl hE t_v0 kX6 6 (by decide) rfl rfl (by decide) rfl wd_281 rfl rfl rfl ?_
  refine jTopS (fun S2 e_S2 => ?_)
  have h := h S2 e_S2
  refine jB C [(.aload_n 0, 1, 0)] 82 [(0, .ref (b + v0)), (1, .int v1), (2, .int v2)] [.ref (b + v0)] (by decide +kernel) rfl rfl ?_
  refine jGetI C 85 (by decide +kernel : decode cX6_simplePart 82 = .ok (.getfield 44, 3)) rfl t_v0 kX6 8 (by decide) rfl rfl (by decide) wd_283 ?_
  refine jIf_ne C 88 127 (by decide +kernel : decode cX6_simplePart 85 = .ok (.ifCond .ne 42, 3)) rfl rfl (fun c3 => ?_) (fun c3 => ?_)
  · have h := it2 h c3
    refine jSub [0, 1, 2] rfl ?_
    exact j_X6_simplePart_127 C hE t_v0 h
  · have h := it1 h c3
    refine jB C [(.iload_n 2, 1, 0), (.iconst 4, 1, 4)] 90 [(0, .ref (b + v0)), (1, .int v1), (2, .int v2)] [.int 4, .int v2] (by decide +kernel) rfl rfl ?_
    refine jIcmp_lt C 93 127 (by decide +kernel : decode cX6_simplePart 90 = .ok (.if_icmp .lt 37, 3)) rfl rfl (fun c4 => ?_) (fun c4 => ?_)
    · have h := it1 h c4
      refine jSub [0, 1, 2] rfl ?_
      exact j_X6_simplePart_127 C hE t_v0 h
    · have h := it2 h c4
      refine jB C [(.aload_n 0, 1, 0)] 94 [(0, .ref (b + v0)), (1, .int v1), (2, .int v2)] [.ref (b + v0)] (by decide +kernel) rfl rfl ?_
      refine jcV_I C 97 (rest := []) (ok_X6_numberHere t_v0 h) (by decide +kernel : decode cX6_simplePart 94 = .ok (.invokevirtual 128, 3)) rfl wd_708 wd_710 wp_50 wd_9 wd_711 ⟨rfl, rfl⟩ hd_X6_numberHere ⟨Nat.le_of_ble_eq_true rfl, Nat.le_of_ble_eq_true rfl⟩ t_v0 kX6 (by decide) rfl rfl rfl (Nat.le_of_ble_eq_true rfl) ⟨Nat.zero_le _, Nat.zero_le _⟩ (fun r6 S5 h => ?_)
      refine jB C [(.istore_n 3, 1, 0), (.iload_n 3, 1, 0)] 99 [(3, .int r6), (0, .ref (b + v0)), (1, .int v1), (2, .int v2)] [.int r6] (by decide +kernel) rfl rfl ?_
      refine jIf_lt C 102 108 (by decide +kernel : decode cX6_simplePart 99 = .ok (.ifCond .lt 9, 3)) rfl rfl (fun c7 => ?_) (fun c7 => ?_)
      · have h := it1 h c7
        refine jSub [1] rfl ?_
        exact j_X6_simplePart_108 C hE t_v0 h
      · have h := it2 h c7
        refine jB C [(.iload_n 3, 1, 0), (.bipush 6, 2, 6)] 105 [(3, .int r6), (0, .ref (b + v0)), (1, .int v1), (2, .int v2)] [.int 6, .int r6] (by decide +kernel) rfl rfl ?_
        refine jIcmp_lt C 108 113 (by decide +kernel : decode cX6_simplePart 105 = .ok (.if_icmp .lt 8, 3)) rfl rfl (fun c8 => ?_) (fun c8 => ?_)
        · have h := it1 h c8
          refine jB C [(.aload_n 0, 1, 0), (.dup, 1, 0)] 115 [(3, .int r6), (0, .ref (b + v0)), (1, .int v1), (2, .int v2)] [.ref (b + v0), .ref (b + v0)] (by decide +kernel) rfl rfl ?_
          refine jGetI C 118 (by decide +kernel : decode cX6_simplePart 115 = .ok (.getfield 51, 3)) rfl t_v0 kX6 6 (by decide) rfl rfl (by decide) wd_281 ?_
          refine jB C [(.iconst 1, 1, 1), (.iadd, 1, 0)] 120 [(3, .int r6), (0, .ref (b + v0)), (1, .int v1), (2, .int v2)] [.int ((S5.1 v0 6) + 1), .ref (b + v0)] (by decide +kernel) rfl rfl ?_
          refine jPutI C 123 (by decide +kernel : decode cX6_simplePart 120 = .ok (.putfield 51, 3)) rfl hE t_v0 kX6 6 (by decide) rfl rfl (by decide) rfl wd_281 rfl rfl rfl ?_
          refine jTopS (fun S9 e_S9 => ?_)
          have h := h S9 e_S9
          refine jB C [(.iload_n 2, 1, 0), (.iload_n 3, 1, 0), (.iadd, 1, 0)] 126 [(3, .int r6), (0, .ref (b + v0)), (1, .int v1), (2, .int v2)] [.int (v2 + r6)] (by decide +kernel) rfl rfl ?_
          refine jTopI (fun x10 e_x10 => ?_)
          have h := h x10 e_x10
          refine jB C [(.istore_n 2, 1, 0)] 127 [(2, .int x10), (3, .int r6), (0, .ref (b + v0)), (1, .int v1)] [] (by decide +kernel) rfl rfl ?_
          refine jSub [2, 3, 0] rfl ?_
          exact j_X6_simplePart_127 C hE t_v0 h
        · have h := it2 h c8
          refine jSub [1] rfl ?_
          exact j_X6_simplePart_108 C hE t_v0 h
set_option maxHeartbeats 4000000 in
set_option maxRecDepth 100000 in
theorem j_X6_simplePart_56 {p : Program} {l : Launch} {e : Env} {s : State} {m : MethodId} {args : Array Value} {below : List Frame} {meth : Method} {c : Code} {b : Nat} {D : va_G} {cy : Nat → ClassId} {G : Gm} {v0 : Nat} {S : St} {Q : St → Prop} (C : CX p s m args meth c b D cy cX6_simplePart RX6 4 none) (hE : s.heap.size + 0 ≤ b + G.2.2) (t_v0 : ok G 5 v0) (h : f_X6_simplePart_56 G v0 Q S) : J p l e rm_X6_simplePart s m args below meth c b D cy 4 (zV b D cy below args s G Q) 0 0 G S 56 [(0, .ref (b + v0))] [] := by
  unfold f_X6_simplePart_56 at h
  refine jB C [(.aload_n 0, 1, 0)] 57 [(0, .ref (b + v0))] [.ref (b + v0)] (by decide +kernel) rfl rfl ?_
  refine jcV_V C 60 (rest := []) (ok_X6_fail t_v0 h) (by decide +kernel : decode cX6_simplePart 57 = .ok (.invokevirtual 67, 3)) rfl wd_680 wd_682 wp_43 wd_9 wd_683 ⟨rfl, rfl⟩ hd_X6_fail ⟨Nat.le_of_ble_eq_true rfl, Nat.le_of_ble_eq_true rfl⟩ t_v0 kX6 (by decide) rfl rfl rfl (Nat.le_of_ble_eq_true rfl) ⟨Nat.zero_le _, Nat.zero_le _⟩ (fun S1 h => ?_)
  exact jRetV C (by decide +kernel : decode cX6_simplePart 60 = .ok (.return_, 1)) (Nat.le_refl _) (Nat.le_refl _) ⟨rfl, h⟩
set_option maxHeartbeats 4000000 in
set_option maxRecDepth 100000 in
theorem j_X6_simplePart_29 {p : Program} {l : Launch} {e : Env} {s : State} {m : MethodId} {args : Array Value} {below : List Frame} {meth : Method} {c : Code} {b : Nat} {D : va_G} {cy : Nat → ClassId} {G : Gm} {v0 : Nat} {v1 : Int32} {u0 : Int32} {S : St} {Q : St → Prop} (C : CX p s m args meth c b D cy cX6_simplePart RX6 4 none) (hE : s.heap.size + 0 ≤ b + G.2.2) (t_v0 : ok G 5 v0) (h : f_X6_simplePart_29 G v0 v1 u0 Q S) : J p l e rm_X6_simplePart s m args below meth c b D cy 4 (zV b D cy below args s G Q) 0 0 G S 29 [(0, .ref (b + v0)), (1, .int v1)] [.int u0] := by
  unfold f_X6_simplePart_29 at h
  refine jB C [(.istore_n 2, 1, 0), (.aload_n 0, 1, 0)] 31 [(2, .int u0), (0, .ref (b + v0)), (1, .int v1)] [.ref (b + v0)] (by decide +kernel) rfl rfl ?_
  refine jGetI C 34 (by decide +kernel : decode cX6_simplePart 31 = .ok (.getfield 48, 3)) rfl t_v0 kX6 7 (by decide) rfl rfl (by decide) wd_282 ?_
  refine jB C [(.bipush 50, 2, 50)] 36 [(2, .int u0), (0, .ref (b + v0)), (1, .int v1)] [.int 50, .int (S.1 v0 7)] (by decide +kernel) rfl rfl ?_
  refine jIcmp_ge C 39 56 (by decide +kernel : decode cX6_simplePart 36 = .ok (.if_icmp .ge 20, 3)) rfl rfl (fun c1 => ?_) (fun c1 => ?_)
  · have h := it1 h c1
    refine jSub [1] rfl ?_
    exact j_X6_simplePart_56 C hE t_v0 h
  · have h := it2 h c1
    refine jB C [(.iload_n 1, 1, 0), (.sipush 1000, 3, 1000)] 43 [(2, .int u0), (0, .ref (b + v0)), (1, .int v1)] [.int 1000, .int v1] (by decide +kernel) rfl rfl ?_
    refine jIcmp_gt C 46 56 (by decide +kernel : decode cX6_simplePart 43 = .ok (.if_icmp .gt 13, 3)) rfl rfl (fun c2 => ?_) (fun c2 => ?_)
    · have h := it1 h c2
      refine jSub [1] rfl ?_
      exact j_X6_simplePart_56 C hE t_v0 h
    · have h := it2 h c2
      refine jB C [(.iload_n 1, 1, 0), (.iconst (-1), 1, (-1))] 48 [(2, .int u0), (0, .ref (b + v0)), (1, .int v1)] [.int (-1), .int v1] (by decide +kernel) rfl rfl ?_
      refine jIcmp_ne C 51 61 (by decide +kernel : decode cX6_simplePart 48 = .ok (.if_icmp .ne 13, 3)) rfl rfl (fun c3 => ?_) (fun c3 => ?_)
      · have h := it2 h c3
        refine jSub [1, 2, 0] rfl ?_
        exact j_X6_simplePart_61 C hE t_v0 h
      · have h := it1 h c3
        refine jB C [(.iload_n 2, 1, 0), (.iconst (-1), 1, (-1))] 53 [(2, .int u0), (0, .ref (b + v0)), (1, .int v1)] [.int (-1), .int u0] (by decide +kernel) rfl rfl ?_
        refine jIcmp_ne C 56 61 (by decide +kernel : decode cX6_simplePart 53 = .ok (.if_icmp .ne 8, 3)) rfl rfl (fun c4 => ?_) (fun c4 => ?_)
        · have h := it2 h c4
          refine jSub [1, 2, 0] rfl ?_
          exact j_X6_simplePart_61 C hE t_v0 h
        · have h := it1 h c4
          refine jSub [1] rfl ?_
          exact j_X6_simplePart_56 C hE t_v0 h
set_option maxHeartbeats 4000000 in
set_option maxRecDepth 100000 in
theorem j_X6_simplePart {p : Program} {l : Launch} {e : Env} {s : State} {m : MethodId} {args : Array Value} {below : List Frame} {meth : Method} {c : Code} {b : Nat} {D : va_G} {cy : Nat → ClassId} {G : Gm} {v0 : Nat} {S : St} {Q : St → Prop} (C : CX p s m args meth c b D cy cX6_simplePart RX6 4 none) (hE : s.heap.size + 0 ≤ b + G.2.2) (t_v0 : ok G 5 v0) (h : f_X6_simplePart G v0 Q S) : J p l e rm_X6_simplePart s m args below meth c b D cy 4 (zV b D cy below args s G Q) 0 0 G S 0 [(0, .ref (b + v0))] [] := by
  unfold f_X6_simplePart at h
  refine jB C [(.aload_n 0, 1, 0)] 1 [(0, .ref (b + v0))] [.ref (b + v0)] (by decide +kernel) rfl rfl ?_
  refine jcV_I C 4 (rest := []) (ok_X6_numberHere t_v0 h) (by decide +kernel : decode cX6_simplePart 1 = .ok (.invokevirtual 128, 3)) rfl wd_708 wd_710 wp_50 wd_9 wd_711 ⟨rfl, rfl⟩ hd_X6_numberHere ⟨Nat.le_of_ble_eq_true rfl, Nat.le_of_ble_eq_true rfl⟩ t_v0 kX6 (by decide) rfl rfl rfl (Nat.le_of_ble_eq_true rfl) ⟨Nat.zero_le _, Nat.zero_le _⟩ (fun r2 S1 h => ?_)
  refine jB C [(.istore_n 1, 1, 0), (.aload_n 0, 1, 0)] 6 [(1, .int r2), (0, .ref (b + v0))] [.ref (b + v0)] (by decide +kernel) rfl rfl ?_
  refine jGetI C 9 (by decide +kernel : decode cX6_simplePart 6 = .ok (.getfield 44, 3)) rfl t_v0 kX6 8 (by decide) rfl rfl (by decide) wd_283 ?_
  refine jIf_eq C 12 22 (by decide +kernel : decode cX6_simplePart 9 = .ok (.ifCond .eq 13, 3)) rfl rfl (fun c3 => ?_) (fun c3 => ?_)
  · have h := it1 h c3
    refine jB C [(.aload_n 0, 1, 0)] 23 [(1, .int r2), (0, .ref (b + v0))] [.ref (b + v0)] (by decide +kernel) rfl rfl ?_
    refine jcV_I C 26 (rest := []) (ok_X6_here t_v0 h) (by decide +kernel : decode cX6_simplePart 23 = .ok (.invokevirtual 63, 3)) rfl wd_676 wd_678 wp_42 wd_9 wd_679 ⟨rfl, rfl⟩ hd_X6_here ⟨Nat.le_of_ble_eq_true rfl, Nat.le_of_ble_eq_true rfl⟩ t_v0 kX6 (by decide) rfl rfl rfl (Nat.le_of_ble_eq_true rfl) ⟨Nat.zero_le _, Nat.zero_le _⟩ (fun r5 S4 h => ?_)
    refine jcS_I C 29 (rest := []) (ok_X6_orderWord h) (by decide +kernel : decode cX6_simplePart 26 = .ok (.invokestatic 164, 3)) rfl wd_715 wd_716 wd_9 wd_717 ⟨rfl, rfl⟩ hd_X6_orderWord ⟨Nat.le_of_ble_eq_true rfl, Nat.le_of_ble_eq_true rfl⟩ rfl rfl (Nat.le_of_ble_eq_true rfl) ⟨Nat.zero_le _, Nat.zero_le _⟩ (fun r7 S6 h => ?_)
    refine jSub [1, 0] rfl ?_
    exact j_X6_simplePart_29 C hE t_v0 h
  · have h := it2 h c3
    refine jB C [(.aload_n 0, 1, 0)] 13 [(1, .int r2), (0, .ref (b + v0))] [.ref (b + v0)] (by decide +kernel) rfl rfl ?_
    refine jcV_I C 16 (rest := []) (ok_X6_here t_v0 h) (by decide +kernel : decode cX6_simplePart 13 = .ok (.invokevirtual 63, 3)) rfl wd_676 wd_678 wp_42 wd_9 wd_679 ⟨rfl, rfl⟩ hd_X6_here ⟨Nat.le_of_ble_eq_true rfl, Nat.le_of_ble_eq_true rfl⟩ t_v0 kX6 (by decide) rfl rfl rfl (Nat.le_of_ble_eq_true rfl) ⟨Nat.zero_le _, Nat.zero_le _⟩ (fun r9 S8 h => ?_)
    refine jcS_I C 19 (rest := []) (ok_X6_lawWord h) (by decide +kernel : decode cX6_simplePart 16 = .ok (.invokestatic 161, 3)) rfl wd_712 wd_713 wd_9 wd_714 ⟨rfl, rfl⟩ hd_X6_lawWord ⟨Nat.le_of_ble_eq_true rfl, Nat.le_of_ble_eq_true rfl⟩ rfl rfl (Nat.le_of_ble_eq_true rfl) ⟨Nat.zero_le _, Nat.zero_le _⟩ (fun r11 S10 h => ?_)
    refine jGoto C 29 (by decide +kernel : decode cX6_simplePart 19 = .ok (.goto 10, 3)) rfl ?_
    refine jSub [1, 0] rfl ?_
    exact j_X6_simplePart_29 C hE t_v0 h
theorem ok_X6_simplePart {G : Gm} {v0 : Nat} {S : St} {Q : St → Prop} (t_v0 : ok G 5 v0) (h : f_X6_simplePart G v0 Q S) : MT yX6_simplePart cX6_simplePart 4 none rm_X6_simplePart 0 0 (fun b => [.ref (b + v0)]) G S (QV (fun G1 S1 => G1 = G ∧ Q S1)) := MT.ofJ (by decide) (fun b => [(0, .ref (b + v0))]) (fun b => rfl) (fun b => Nat.le_of_ble_eq_true rfl) (fun l b D cy p e s m below meth c C hE hn => j_X6_simplePart C hE t_v0 h)
theorem hd_X6_simplePart : yX6_simplePart.cls ≠ "java/lang/invoke/MethodHandle" ∧ yX6_simplePart.cls ≠ "java/lang/invoke/VarHandle" ∧ (parseMethodDescriptor yX6_simplePart.desc).map (fun d => d.parameters.length) = some 0 := by decide +kernel
def f_X6_expect (G : Gm) (v0 : Nat) (v1 : Int32) (Q : St → Prop) (S : St) : Prop :=
  f_X6_here G v0 (fun r2 S1 => (if r2 = v1 then (∀ S5, S5 = uI S1 v0 6 ((S1.1 v0 6) + 1) → Q S5) else f_X6_fail G v0 (fun S4 => Q S4) S1)) S
abbrev rm_X6_expect : Room := { frames := 1, cells := 0, slots := 0, locals := 20 }
set_option maxHeartbeats 4000000 in
set_option maxRecDepth 100000 in
theorem j_X6_expect {p : Program} {l : Launch} {e : Env} {s : State} {m : MethodId} {args : Array Value} {below : List Frame} {meth : Method} {c : Code} {b : Nat} {D : va_G} {cy : Nat → ClassId} {G : Gm} {v0 : Nat} {v1 : Int32} {S : St} {Q : St → Prop} (C : CX p s m args meth c b D cy cX6_expect RX6 2 none) (hE : s.heap.size + 0 ≤ b + G.2.2) (t_v0 : ok G 5 v0) (h : f_X6_expect G v0 v1 Q S) : J p l e rm_X6_expect s m args below meth c b D cy 2 (zV b D cy below args s G Q) 0 0 G S 0 [(0, .ref (b + v0)), (1, .int v1)] [] := by
  unfold f_X6_expect at h
  refine jB C [(.aload_n 0, 1, 0)] 1 [(0, .ref (b + v0)), (1, .int v1)] [.ref (b + v0)] (by decide +kernel) rfl rfl ?_
  refine jcV_I C 4 (rest := []) (ok_X6_here t_v0 h) (by decide +kernel : decode cX6_expect 1 = .ok (.invokevirtual 63, 3)) rfl wd_676 wd_678 wp_42 wd_9 wd_679 ⟨rfl, rfl⟩ hd_X6_here ⟨Nat.le_of_ble_eq_true rfl, Nat.le_of_ble_eq_true rfl⟩ t_v0 kX6 (by decide) rfl rfl rfl (Nat.le_of_ble_eq_true rfl) ⟨Nat.zero_le _, Nat.zero_le _⟩ (fun r2 S1 h => ?_)
  refine jB C [(.iload_n 1, 1, 0)] 5 [(0, .ref (b + v0)), (1, .int v1)] [.int v1, .int r2] (by decide +kernel) rfl rfl ?_
  refine jIcmp_ne C 8 21 (by decide +kernel : decode cX6_expect 5 = .ok (.if_icmp .ne 16, 3)) rfl rfl (fun c3 => ?_) (fun c3 => ?_)
  · have h := it2 h c3
    refine jB C [(.aload_n 0, 1, 0)] 22 [(0, .ref (b + v0)), (1, .int v1)] [.ref (b + v0)] (by decide +kernel) rfl rfl ?_
    refine jcV_V C 25 (rest := []) (ok_X6_fail t_v0 h) (by decide +kernel : decode cX6_expect 22 = .ok (.invokevirtual 67, 3)) rfl wd_680 wd_682 wp_43 wd_9 wd_683 ⟨rfl, rfl⟩ hd_X6_fail ⟨Nat.le_of_ble_eq_true rfl, Nat.le_of_ble_eq_true rfl⟩ t_v0 kX6 (by decide) rfl rfl rfl (Nat.le_of_ble_eq_true rfl) ⟨Nat.zero_le _, Nat.zero_le _⟩ (fun S4 h => ?_)
    exact jRetV C (by decide +kernel : decode cX6_expect 25 = .ok (.return_, 1)) (Nat.le_refl _) (Nat.le_refl _) ⟨rfl, h⟩
  · have h := it1 h c3
    refine jB C [(.aload_n 0, 1, 0), (.dup, 1, 0)] 10 [(0, .ref (b + v0)), (1, .int v1)] [.ref (b + v0), .ref (b + v0)] (by decide +kernel) rfl rfl ?_
    refine jGetI C 13 (by decide +kernel : decode cX6_expect 10 = .ok (.getfield 51, 3)) rfl t_v0 kX6 6 (by decide) rfl rfl (by decide) wd_281 ?_
    refine jB C [(.iconst 1, 1, 1), (.iadd, 1, 0)] 15 [(0, .ref (b + v0)), (1, .int v1)] [.int ((S1.1 v0 6) + 1), .ref (b + v0)] (by decide +kernel) rfl rfl ?_
    refine jPutI C 18 (by decide +kernel : decode cX6_expect 15 = .ok (.putfield 51, 3)) rfl hE t_v0 kX6 6 (by decide) rfl rfl (by decide) rfl wd_281 rfl rfl rfl ?_
    refine jTopS (fun S5 e_S5 => ?_)
    have h := h S5 e_S5
    refine jGoto C 25 (by decide +kernel : decode cX6_expect 18 = .ok (.goto 7, 3)) rfl ?_
    exact jRetV C (by decide +kernel : decode cX6_expect 25 = .ok (.return_, 1)) (Nat.le_refl _) (Nat.le_refl _) ⟨rfl, h⟩
theorem ok_X6_expect {G : Gm} {v0 : Nat} {v1 : Int32} {S : St} {Q : St → Prop} (t_v0 : ok G 5 v0) (h : f_X6_expect G v0 v1 Q S) : MT yX6_expect cX6_expect 2 none rm_X6_expect 0 0 (fun b => [.ref (b + v0), .int v1]) G S (QV (fun G1 S1 => G1 = G ∧ Q S1)) := MT.ofJ (by decide) (fun b => [(0, .ref (b + v0)), (1, .int v1)]) (fun b => rfl) (fun b => Nat.le_of_ble_eq_true rfl) (fun l b D cy p e s m below meth c C hE hn => j_X6_expect C hE t_v0 h)
theorem hd_X6_expect : yX6_expect.cls ≠ "java/lang/invoke/MethodHandle" ∧ yX6_expect.cls ≠ "java/lang/invoke/VarHandle" ∧ (parseMethodDescriptor yX6_expect.desc).map (fun d => d.parameters.length) = some 1 := by decide +kernel
def f_X6_stepOf (G : Gm) (v0 : Int32) (Q : Int32 → St → Prop) (S : St) : Prop :=
  (if (v0 - 100) = 37 then Q 6 S else (if (v0 - 100) = 38 then Q (-1) S else (if (v0 - 100) = 39 then Q (-1) S else (if (v0 - 100) = 40 then Q (-1) S else (if (v0 - 100) = 41 then Q (-1) S else (if (v0 - 100) = 42 then Q 4 S else (if (v0 - 100) = 43 then Q 2 S else (if (v0 - 100) = 44 then Q (-1) S else (if (v0 - 100) = 45 then Q 3 S else (if (v0 - 100) = 46 then Q (-1) S else (if (v0 - 100) = 47 then Q 5 S else (if (v0 - 100) = 48 then Q (-1) S else (if (v0 - 100) = 49 then Q (-1) S else (if (v0 - 100) = 50 then Q (-1) S else (if (v0 - 100) = 51 then Q (-1) S else (if (v0 - 100) = 52 then Q (-1) S else (if (v0 - 100) = 53 then Q (-1) S else (if (v0 - 100) = 54 then Q (-1) S else (if (v0 - 100) = 55 then Q (-1) S else (if (v0 - 100) = 56 then Q (-1) S else (if (v0 - 100) = 57 then Q (-1) S else (if (v0 - 100) = 58 then Q (-1) S else (if (v0 - 100) = 59 then Q (-1) S else (if (v0 - 100) = 60 then Q 7 S else (if (v0 - 100) = 61 then Q 9 S else (if (v0 - 100) = 62 then Q 8 S else Q (-1) S))))))))))))))))))))))))))
abbrev rm_X6_stepOf : Room := { frames := 0, cells := 0, slots := 0, locals := 0 }
set_option maxHeartbeats 4000000 in
set_option maxRecDepth 100000 in
theorem j_X6_stepOf {p : Program} {l : Launch} {e : Env} {s : State} {m : MethodId} {args : Array Value} {below : List Frame} {meth : Method} {c : Code} {b : Nat} {D : va_G} {cy : Nat → ClassId} {G : Gm} {v0 : Int32} {S : St} {Q : Int32 → St → Prop} (C : CX p s m args meth c b D cy cX6_stepOf RX6 1 (some .int)) (hE : s.heap.size + 0 ≤ b + G.2.2) (h : f_X6_stepOf G v0 Q S) : J p l e rm_X6_stepOf s m args below meth c b D cy 1 (zI b D cy below args s G Q) 0 0 G S 0 [(0, .int v0)] [] := by
  unfold f_X6_stepOf at h
  refine jB C [(.iload_n 0, 1, 0), (.bipush 100, 2, 100), (.isub, 1, 0)] 4 [(0, .int v0)] [.int (v0 - 100)] (by decide +kernel) rfl rfl ?_
  by_cases c1_0 : (v0 - 100) = 37
  · have h := it1 h c1_0
    refine jTabIn C 132 37 (by decide +kernel : decode cX6_stepOf 4 = .ok (.tableswitch 140 37 62 #[128, 140, 140, 140, 140, 124, 120, 140, 122, 140, 126, 140, 140, 140, 140, 140, 140, 140, 140, 140, 140, 140, 140, 131, 137, 134], 120)) c1_0 ⟨rfl, rfl, rfl, rfl⟩ ?_
    refine jB C [(.bipush 6, 2, 6)] 134 [(0, .int v0)] [.int 6] (by decide +kernel) rfl rfl ?_
    exact jRetI C (by decide +kernel : decode cX6_stepOf 134 = .ok (.ireturn, 1)) (Nat.le_refl _) (Nat.le_refl _) ⟨rfl, h⟩
  · have h := it2 h c1_0
    by_cases c1_1 : (v0 - 100) = 38
    · have h := it1 h c1_1
      refine jTabIn C 144 38 (by decide +kernel : decode cX6_stepOf 4 = .ok (.tableswitch 140 37 62 #[128, 140, 140, 140, 140, 124, 120, 140, 122, 140, 126, 140, 140, 140, 140, 140, 140, 140, 140, 140, 140, 140, 140, 131, 137, 134], 120)) c1_1 ⟨rfl, rfl, rfl, rfl⟩ ?_
      refine jB C [(.iconst (-1), 1, (-1))] 145 [(0, .int v0)] [.int (-1)] (by decide +kernel) rfl rfl ?_
      exact jRetI C (by decide +kernel : decode cX6_stepOf 145 = .ok (.ireturn, 1)) (Nat.le_refl _) (Nat.le_refl _) ⟨rfl, h⟩
    · have h := it2 h c1_1
      by_cases c1_2 : (v0 - 100) = 39
      · have h := it1 h c1_2
        refine jTabIn C 144 39 (by decide +kernel : decode cX6_stepOf 4 = .ok (.tableswitch 140 37 62 #[128, 140, 140, 140, 140, 124, 120, 140, 122, 140, 126, 140, 140, 140, 140, 140, 140, 140, 140, 140, 140, 140, 140, 131, 137, 134], 120)) c1_2 ⟨rfl, rfl, rfl, rfl⟩ ?_
        refine jB C [(.iconst (-1), 1, (-1))] 145 [(0, .int v0)] [.int (-1)] (by decide +kernel) rfl rfl ?_
        exact jRetI C (by decide +kernel : decode cX6_stepOf 145 = .ok (.ireturn, 1)) (Nat.le_refl _) (Nat.le_refl _) ⟨rfl, h⟩
      · have h := it2 h c1_2
        by_cases c1_3 : (v0 - 100) = 40
        · have h := it1 h c1_3
          refine jTabIn C 144 40 (by decide +kernel : decode cX6_stepOf 4 = .ok (.tableswitch 140 37 62 #[128, 140, 140, 140, 140, 124, 120, 140, 122, 140, 126, 140, 140, 140, 140, 140, 140, 140, 140, 140, 140, 140, 140, 131, 137, 134], 120)) c1_3 ⟨rfl, rfl, rfl, rfl⟩ ?_
          refine jB C [(.iconst (-1), 1, (-1))] 145 [(0, .int v0)] [.int (-1)] (by decide +kernel) rfl rfl ?_
          exact jRetI C (by decide +kernel : decode cX6_stepOf 145 = .ok (.ireturn, 1)) (Nat.le_refl _) (Nat.le_refl _) ⟨rfl, h⟩
        · have h := it2 h c1_3
          by_cases c1_4 : (v0 - 100) = 41
          · have h := it1 h c1_4
            refine jTabIn C 144 41 (by decide +kernel : decode cX6_stepOf 4 = .ok (.tableswitch 140 37 62 #[128, 140, 140, 140, 140, 124, 120, 140, 122, 140, 126, 140, 140, 140, 140, 140, 140, 140, 140, 140, 140, 140, 140, 131, 137, 134], 120)) c1_4 ⟨rfl, rfl, rfl, rfl⟩ ?_
            refine jB C [(.iconst (-1), 1, (-1))] 145 [(0, .int v0)] [.int (-1)] (by decide +kernel) rfl rfl ?_
            exact jRetI C (by decide +kernel : decode cX6_stepOf 145 = .ok (.ireturn, 1)) (Nat.le_refl _) (Nat.le_refl _) ⟨rfl, h⟩
          · have h := it2 h c1_4
            by_cases c1_5 : (v0 - 100) = 42
            · have h := it1 h c1_5
              refine jTabIn C 128 42 (by decide +kernel : decode cX6_stepOf 4 = .ok (.tableswitch 140 37 62 #[128, 140, 140, 140, 140, 124, 120, 140, 122, 140, 126, 140, 140, 140, 140, 140, 140, 140, 140, 140, 140, 140, 140, 131, 137, 134], 120)) c1_5 ⟨rfl, rfl, rfl, rfl⟩ ?_
              refine jB C [(.iconst 4, 1, 4)] 129 [(0, .int v0)] [.int 4] (by decide +kernel) rfl rfl ?_
              exact jRetI C (by decide +kernel : decode cX6_stepOf 129 = .ok (.ireturn, 1)) (Nat.le_refl _) (Nat.le_refl _) ⟨rfl, h⟩
            · have h := it2 h c1_5
              by_cases c1_6 : (v0 - 100) = 43
              · have h := it1 h c1_6
                refine jTabIn C 124 43 (by decide +kernel : decode cX6_stepOf 4 = .ok (.tableswitch 140 37 62 #[128, 140, 140, 140, 140, 124, 120, 140, 122, 140, 126, 140, 140, 140, 140, 140, 140, 140, 140, 140, 140, 140, 140, 131, 137, 134], 120)) c1_6 ⟨rfl, rfl, rfl, rfl⟩ ?_
                refine jB C [(.iconst 2, 1, 2)] 125 [(0, .int v0)] [.int 2] (by decide +kernel) rfl rfl ?_
                exact jRetI C (by decide +kernel : decode cX6_stepOf 125 = .ok (.ireturn, 1)) (Nat.le_refl _) (Nat.le_refl _) ⟨rfl, h⟩
              · have h := it2 h c1_6
                by_cases c1_7 : (v0 - 100) = 44
                · have h := it1 h c1_7
                  refine jTabIn C 144 44 (by decide +kernel : decode cX6_stepOf 4 = .ok (.tableswitch 140 37 62 #[128, 140, 140, 140, 140, 124, 120, 140, 122, 140, 126, 140, 140, 140, 140, 140, 140, 140, 140, 140, 140, 140, 140, 131, 137, 134], 120)) c1_7 ⟨rfl, rfl, rfl, rfl⟩ ?_
                  refine jB C [(.iconst (-1), 1, (-1))] 145 [(0, .int v0)] [.int (-1)] (by decide +kernel) rfl rfl ?_
                  exact jRetI C (by decide +kernel : decode cX6_stepOf 145 = .ok (.ireturn, 1)) (Nat.le_refl _) (Nat.le_refl _) ⟨rfl, h⟩
                · have h := it2 h c1_7
                  by_cases c1_8 : (v0 - 100) = 45
                  · have h := it1 h c1_8
                    refine jTabIn C 126 45 (by decide +kernel : decode cX6_stepOf 4 = .ok (.tableswitch 140 37 62 #[128, 140, 140, 140, 140, 124, 120, 140, 122, 140, 126, 140, 140, 140, 140, 140, 140, 140, 140, 140, 140, 140, 140, 131, 137, 134], 120)) c1_8 ⟨rfl, rfl, rfl, rfl⟩ ?_
                    refine jB C [(.iconst 3, 1, 3)] 127 [(0, .int v0)] [.int 3] (by decide +kernel) rfl rfl ?_
                    exact jRetI C (by decide +kernel : decode cX6_stepOf 127 = .ok (.ireturn, 1)) (Nat.le_refl _) (Nat.le_refl _) ⟨rfl, h⟩
                  · have h := it2 h c1_8
                    by_cases c1_9 : (v0 - 100) = 46
                    · have h := it1 h c1_9
                      refine jTabIn C 144 46 (by decide +kernel : decode cX6_stepOf 4 = .ok (.tableswitch 140 37 62 #[128, 140, 140, 140, 140, 124, 120, 140, 122, 140, 126, 140, 140, 140, 140, 140, 140, 140, 140, 140, 140, 140, 140, 131, 137, 134], 120)) c1_9 ⟨rfl, rfl, rfl, rfl⟩ ?_
                      refine jB C [(.iconst (-1), 1, (-1))] 145 [(0, .int v0)] [.int (-1)] (by decide +kernel) rfl rfl ?_
                      exact jRetI C (by decide +kernel : decode cX6_stepOf 145 = .ok (.ireturn, 1)) (Nat.le_refl _) (Nat.le_refl _) ⟨rfl, h⟩
                    · have h := it2 h c1_9
                      by_cases c1_10 : (v0 - 100) = 47
                      · have h := it1 h c1_10
                        refine jTabIn C 130 47 (by decide +kernel : decode cX6_stepOf 4 = .ok (.tableswitch 140 37 62 #[128, 140, 140, 140, 140, 124, 120, 140, 122, 140, 126, 140, 140, 140, 140, 140, 140, 140, 140, 140, 140, 140, 140, 131, 137, 134], 120)) c1_10 ⟨rfl, rfl, rfl, rfl⟩ ?_
                        refine jB C [(.iconst 5, 1, 5)] 131 [(0, .int v0)] [.int 5] (by decide +kernel) rfl rfl ?_
                        exact jRetI C (by decide +kernel : decode cX6_stepOf 131 = .ok (.ireturn, 1)) (Nat.le_refl _) (Nat.le_refl _) ⟨rfl, h⟩
                      · have h := it2 h c1_10
                        by_cases c1_11 : (v0 - 100) = 48
                        · have h := it1 h c1_11
                          refine jTabIn C 144 48 (by decide +kernel : decode cX6_stepOf 4 = .ok (.tableswitch 140 37 62 #[128, 140, 140, 140, 140, 124, 120, 140, 122, 140, 126, 140, 140, 140, 140, 140, 140, 140, 140, 140, 140, 140, 140, 131, 137, 134], 120)) c1_11 ⟨rfl, rfl, rfl, rfl⟩ ?_
                          refine jB C [(.iconst (-1), 1, (-1))] 145 [(0, .int v0)] [.int (-1)] (by decide +kernel) rfl rfl ?_
                          exact jRetI C (by decide +kernel : decode cX6_stepOf 145 = .ok (.ireturn, 1)) (Nat.le_refl _) (Nat.le_refl _) ⟨rfl, h⟩
                        · have h := it2 h c1_11
                          by_cases c1_12 : (v0 - 100) = 49
                          · have h := it1 h c1_12
                            refine jTabIn C 144 49 (by decide +kernel : decode cX6_stepOf 4 = .ok (.tableswitch 140 37 62 #[128, 140, 140, 140, 140, 124, 120, 140, 122, 140, 126, 140, 140, 140, 140, 140, 140, 140, 140, 140, 140, 140, 140, 131, 137, 134], 120)) c1_12 ⟨rfl, rfl, rfl, rfl⟩ ?_
                            refine jB C [(.iconst (-1), 1, (-1))] 145 [(0, .int v0)] [.int (-1)] (by decide +kernel) rfl rfl ?_
                            exact jRetI C (by decide +kernel : decode cX6_stepOf 145 = .ok (.ireturn, 1)) (Nat.le_refl _) (Nat.le_refl _) ⟨rfl, h⟩
                          · have h := it2 h c1_12
                            by_cases c1_13 : (v0 - 100) = 50
                            · have h := it1 h c1_13
                              refine jTabIn C 144 50 (by decide +kernel : decode cX6_stepOf 4 = .ok (.tableswitch 140 37 62 #[128, 140, 140, 140, 140, 124, 120, 140, 122, 140, 126, 140, 140, 140, 140, 140, 140, 140, 140, 140, 140, 140, 140, 131, 137, 134], 120)) c1_13 ⟨rfl, rfl, rfl, rfl⟩ ?_
                              refine jB C [(.iconst (-1), 1, (-1))] 145 [(0, .int v0)] [.int (-1)] (by decide +kernel) rfl rfl ?_
                              exact jRetI C (by decide +kernel : decode cX6_stepOf 145 = .ok (.ireturn, 1)) (Nat.le_refl _) (Nat.le_refl _) ⟨rfl, h⟩
                            · have h := it2 h c1_13
                              by_cases c1_14 : (v0 - 100) = 51
                              · have h := it1 h c1_14
                                refine jTabIn C 144 51 (by decide +kernel : decode cX6_stepOf 4 = .ok (.tableswitch 140 37 62 #[128, 140, 140, 140, 140, 124, 120, 140, 122, 140, 126, 140, 140, 140, 140, 140, 140, 140, 140, 140, 140, 140, 140, 131, 137, 134], 120)) c1_14 ⟨rfl, rfl, rfl, rfl⟩ ?_
                                refine jB C [(.iconst (-1), 1, (-1))] 145 [(0, .int v0)] [.int (-1)] (by decide +kernel) rfl rfl ?_
                                exact jRetI C (by decide +kernel : decode cX6_stepOf 145 = .ok (.ireturn, 1)) (Nat.le_refl _) (Nat.le_refl _) ⟨rfl, h⟩
                              · have h := it2 h c1_14
                                by_cases c1_15 : (v0 - 100) = 52
                                · have h := it1 h c1_15
                                  refine jTabIn C 144 52 (by decide +kernel : decode cX6_stepOf 4 = .ok (.tableswitch 140 37 62 #[128, 140, 140, 140, 140, 124, 120, 140, 122, 140, 126, 140, 140, 140, 140, 140, 140, 140, 140, 140, 140, 140, 140, 131, 137, 134], 120)) c1_15 ⟨rfl, rfl, rfl, rfl⟩ ?_
                                  refine jB C [(.iconst (-1), 1, (-1))] 145 [(0, .int v0)] [.int (-1)] (by decide +kernel) rfl rfl ?_
                                  exact jRetI C (by decide +kernel : decode cX6_stepOf 145 = .ok (.ireturn, 1)) (Nat.le_refl _) (Nat.le_refl _) ⟨rfl, h⟩
                                · have h := it2 h c1_15
                                  by_cases c1_16 : (v0 - 100) = 53
                                  · have h := it1 h c1_16
                                    refine jTabIn C 144 53 (by decide +kernel : decode cX6_stepOf 4 = .ok (.tableswitch 140 37 62 #[128, 140, 140, 140, 140, 124, 120, 140, 122, 140, 126, 140, 140, 140, 140, 140, 140, 140, 140, 140, 140, 140, 140, 131, 137, 134], 120)) c1_16 ⟨rfl, rfl, rfl, rfl⟩ ?_
                                    refine jB C [(.iconst (-1), 1, (-1))] 145 [(0, .int v0)] [.int (-1)] (by decide +kernel) rfl rfl ?_
                                    exact jRetI C (by decide +kernel : decode cX6_stepOf 145 = .ok (.ireturn, 1)) (Nat.le_refl _) (Nat.le_refl _) ⟨rfl, h⟩
                                  · have h := it2 h c1_16
                                    by_cases c1_17 : (v0 - 100) = 54
                                    · have h := it1 h c1_17
                                      refine jTabIn C 144 54 (by decide +kernel : decode cX6_stepOf 4 = .ok (.tableswitch 140 37 62 #[128, 140, 140, 140, 140, 124, 120, 140, 122, 140, 126, 140, 140, 140, 140, 140, 140, 140, 140, 140, 140, 140, 140, 131, 137, 134], 120)) c1_17 ⟨rfl, rfl, rfl, rfl⟩ ?_
                                      refine jB C [(.iconst (-1), 1, (-1))] 145 [(0, .int v0)] [.int (-1)] (by decide +kernel) rfl rfl ?_
                                      exact jRetI C (by decide +kernel : decode cX6_stepOf 145 = .ok (.ireturn, 1)) (Nat.le_refl _) (Nat.le_refl _) ⟨rfl, h⟩
                                    · have h := it2 h c1_17
                                      by_cases c1_18 : (v0 - 100) = 55
                                      · have h := it1 h c1_18
                                        refine jTabIn C 144 55 (by decide +kernel : decode cX6_stepOf 4 = .ok (.tableswitch 140 37 62 #[128, 140, 140, 140, 140, 124, 120, 140, 122, 140, 126, 140, 140, 140, 140, 140, 140, 140, 140, 140, 140, 140, 140, 131, 137, 134], 120)) c1_18 ⟨rfl, rfl, rfl, rfl⟩ ?_
                                        refine jB C [(.iconst (-1), 1, (-1))] 145 [(0, .int v0)] [.int (-1)] (by decide +kernel) rfl rfl ?_
                                        exact jRetI C (by decide +kernel : decode cX6_stepOf 145 = .ok (.ireturn, 1)) (Nat.le_refl _) (Nat.le_refl _) ⟨rfl, h⟩
                                      · have h := it2 h c1_18
                                        by_cases c1_19 : (v0 - 100) = 56
                                        · have h := it1 h c1_19
                                          refine jTabIn C 144 56 (by decide +kernel : decode cX6_stepOf 4 = .ok (.tableswitch 140 37 62 #[128, 140, 140, 140, 140, 124, 120, 140, 122, 140, 126, 140, 140, 140, 140, 140, 140, 140, 140, 140, 140, 140, 140, 131, 137, 134], 120)) c1_19 ⟨rfl, rfl, rfl, rfl⟩ ?_
                                          refine jB C [(.iconst (-1), 1, (-1))] 145 [(0, .int v0)] [.int (-1)] (by decide +kernel) rfl rfl ?_
                                          exact jRetI C (by decide +kernel : decode cX6_stepOf 145 = .ok (.ireturn, 1)) (Nat.le_refl _) (Nat.le_refl _) ⟨rfl, h⟩
                                        · have h := it2 h c1_19
                                          by_cases c1_20 : (v0 - 100) = 57
                                          · have h := it1 h c1_20
                                            refine jTabIn C 144 57 (by decide +kernel : decode cX6_stepOf 4 = .ok (.tableswitch 140 37 62 #[128, 140, 140, 140, 140, 124, 120, 140, 122, 140, 126, 140, 140, 140, 140, 140, 140, 140, 140, 140, 140, 140, 140, 131, 137, 134], 120)) c1_20 ⟨rfl, rfl, rfl, rfl⟩ ?_
                                            refine jB C [(.iconst (-1), 1, (-1))] 145 [(0, .int v0)] [.int (-1)] (by decide +kernel) rfl rfl ?_
                                            exact jRetI C (by decide +kernel : decode cX6_stepOf 145 = .ok (.ireturn, 1)) (Nat.le_refl _) (Nat.le_refl _) ⟨rfl, h⟩
                                          · have h := it2 h c1_20
                                            by_cases c1_21 : (v0 - 100) = 58
                                            · have h := it1 h c1_21
                                              refine jTabIn C 144 58 (by decide +kernel : decode cX6_stepOf 4 = .ok (.tableswitch 140 37 62 #[128, 140, 140, 140, 140, 124, 120, 140, 122, 140, 126, 140, 140, 140, 140, 140, 140, 140, 140, 140, 140, 140, 140, 131, 137, 134], 120)) c1_21 ⟨rfl, rfl, rfl, rfl⟩ ?_
                                              refine jB C [(.iconst (-1), 1, (-1))] 145 [(0, .int v0)] [.int (-1)] (by decide +kernel) rfl rfl ?_
                                              exact jRetI C (by decide +kernel : decode cX6_stepOf 145 = .ok (.ireturn, 1)) (Nat.le_refl _) (Nat.le_refl _) ⟨rfl, h⟩
                                            · have h := it2 h c1_21
                                              by_cases c1_22 : (v0 - 100) = 59
                                              · have h := it1 h c1_22
                                                refine jTabIn C 144 59 (by decide +kernel : decode cX6_stepOf 4 = .ok (.tableswitch 140 37 62 #[128, 140, 140, 140, 140, 124, 120, 140, 122, 140, 126, 140, 140, 140, 140, 140, 140, 140, 140, 140, 140, 140, 140, 131, 137, 134], 120)) c1_22 ⟨rfl, rfl, rfl, rfl⟩ ?_
                                                refine jB C [(.iconst (-1), 1, (-1))] 145 [(0, .int v0)] [.int (-1)] (by decide +kernel) rfl rfl ?_
                                                exact jRetI C (by decide +kernel : decode cX6_stepOf 145 = .ok (.ireturn, 1)) (Nat.le_refl _) (Nat.le_refl _) ⟨rfl, h⟩
                                              · have h := it2 h c1_22
                                                by_cases c1_23 : (v0 - 100) = 60
                                                · have h := it1 h c1_23
                                                  refine jTabIn C 135 60 (by decide +kernel : decode cX6_stepOf 4 = .ok (.tableswitch 140 37 62 #[128, 140, 140, 140, 140, 124, 120, 140, 122, 140, 126, 140, 140, 140, 140, 140, 140, 140, 140, 140, 140, 140, 140, 131, 137, 134], 120)) c1_23 ⟨rfl, rfl, rfl, rfl⟩ ?_
                                                  refine jB C [(.bipush 7, 2, 7)] 137 [(0, .int v0)] [.int 7] (by decide +kernel) rfl rfl ?_
                                                  exact jRetI C (by decide +kernel : decode cX6_stepOf 137 = .ok (.ireturn, 1)) (Nat.le_refl _) (Nat.le_refl _) ⟨rfl, h⟩
                                                · have h := it2 h c1_23
                                                  by_cases c1_24 : (v0 - 100) = 61
                                                  · have h := it1 h c1_24
                                                    refine jTabIn C 141 61 (by decide +kernel : decode cX6_stepOf 4 = .ok (.tableswitch 140 37 62 #[128, 140, 140, 140, 140, 124, 120, 140, 122, 140, 126, 140, 140, 140, 140, 140, 140, 140, 140, 140, 140, 140, 140, 131, 137, 134], 120)) c1_24 ⟨rfl, rfl, rfl, rfl⟩ ?_
                                                    refine jB C [(.bipush 9, 2, 9)] 143 [(0, .int v0)] [.int 9] (by decide +kernel) rfl rfl ?_
                                                    exact jRetI C (by decide +kernel : decode cX6_stepOf 143 = .ok (.ireturn, 1)) (Nat.le_refl _) (Nat.le_refl _) ⟨rfl, h⟩
                                                  · have h := it2 h c1_24
                                                    by_cases c1_25 : (v0 - 100) = 62
                                                    · have h := it1 h c1_25
                                                      refine jTabIn C 138 62 (by decide +kernel : decode cX6_stepOf 4 = .ok (.tableswitch 140 37 62 #[128, 140, 140, 140, 140, 124, 120, 140, 122, 140, 126, 140, 140, 140, 140, 140, 140, 140, 140, 140, 140, 140, 140, 131, 137, 134], 120)) c1_25 ⟨rfl, rfl, rfl, rfl⟩ ?_
                                                      refine jB C [(.bipush 8, 2, 8)] 140 [(0, .int v0)] [.int 8] (by decide +kernel) rfl rfl ?_
                                                      exact jRetI C (by decide +kernel : decode cX6_stepOf 140 = .ok (.ireturn, 1)) (Nat.le_refl _) (Nat.le_refl _) ⟨rfl, h⟩
                                                    · have h := it2 h c1_25
                                                      refine jTabOut C 144 (by decide +kernel : decode cX6_stepOf 4 = .ok (.tableswitch 140 37 62 #[128, 140, 140, 140, 140, 124, 120, 140, 122, 140, 126, 140, 140, 140, 140, 140, 140, 140, 140, 140, 140, 140, 140, 131, 137, 134], 120)) rfl (by have := lv_neT c1_0 (a := 37) rfl; have := lv_neT c1_1 (a := 38) rfl; have := lv_neT c1_2 (a := 39) rfl; have := lv_neT c1_3 (a := 40) rfl; have := lv_neT c1_4 (a := 41) rfl; have := lv_neT c1_5 (a := 42) rfl; have := lv_neT c1_6 (a := 43) rfl; have := lv_neT c1_7 (a := 44) rfl; have := lv_neT c1_8 (a := 45) rfl; have := lv_neT c1_9 (a := 46) rfl; have := lv_neT c1_10 (a := 47) rfl; have := lv_neT c1_11 (a := 48) rfl; have := lv_neT c1_12 (a := 49) rfl; have := lv_neT c1_13 (a := 50) rfl; have := lv_neT c1_14 (a := 51) rfl; have := lv_neT c1_15 (a := 52) rfl; have := lv_neT c1_16 (a := 53) rfl; have := lv_neT c1_17 (a := 54) rfl; have := lv_neT c1_18 (a := 55) rfl; have := lv_neT c1_19 (a := 56) rfl; have := lv_neT c1_20 (a := 57) rfl; have := lv_neT c1_21 (a := 58) rfl; have := lv_neT c1_22 (a := 59) rfl; have := lv_neT c1_23 (a := 60) rfl; have := lv_neT c1_24 (a := 61) rfl; have := lv_neT c1_25 (a := 62) rfl; omega) ?_
                                                      refine jB C [(.iconst (-1), 1, (-1))] 145 [(0, .int v0)] [.int (-1)] (by decide +kernel) rfl rfl ?_
                                                      exact jRetI C (by decide +kernel : decode cX6_stepOf 145 = .ok (.ireturn, 1)) (Nat.le_refl _) (Nat.le_refl _) ⟨rfl, h⟩
theorem ok_X6_stepOf {G : Gm} {v0 : Int32} {S : St} {Q : Int32 → St → Prop} (h : f_X6_stepOf G v0 Q S) : MT yX6_stepOf cX6_stepOf 1 (some .int) rm_X6_stepOf 0 0 (fun b => [.int v0]) G S (QI (fun r G1 S1 => G1 = G ∧ Q r S1)) := MT.ofJ (by decide) (fun b => [(0, .int v0)]) (fun b => rfl) (fun b => Nat.le_of_ble_eq_true rfl) (fun l b D cy p e s m below meth c C hE hn => j_X6_stepOf C hE h)
theorem hd_X6_stepOf : yX6_stepOf.cls ≠ "java/lang/invoke/MethodHandle" ∧ yX6_stepOf.cls ≠ "java/lang/invoke/VarHandle" ∧ (parseMethodDescriptor yX6_stepOf.desc).map (fun d => d.parameters.length) = some 1 := by decide +kernel
def f_X8_repeat (G : Gm) (v0 : Nat) (v1 : Int32) (Q : St → Prop) (S : St) : Prop :=
  (∀ x1 : Int32, x1 = (S.1 v0 5) - 1 → (if x1 < 0 then Q S else (∃ a3, S.2.2 v0 1 = some a3 ∧ (if (nI (G.2.1 a3)) ≤ x1 then Q S else (∃ a5, S.2.2 v0 1 = some a5 ∧ (vp_in x1 (G.2.1 a5) ∧ ∀ S7, S7 = uI S a5 x1.toNatClampNeg v1 → Q S7))))))
abbrev rm_X8_repeat : Room := { frames := 0, cells := 0, slots := 0, locals := 0 }
set_option maxHeartbeats 4000000 in
set_option maxRecDepth 100000 in
theorem j_X8_repeat {p : Program} {l : Launch} {e : Env} {s : State} {m : MethodId} {args : Array Value} {below : List Frame} {meth : Method} {c : Code} {b : Nat} {D : va_G} {cy : Nat → ClassId} {G : Gm} {v0 : Nat} {v1 : Int32} {S : St} {Q : St → Prop} (C : CX p s m args meth c b D cy cX8_repeat RX8 3 none) (hE : s.heap.size + 0 ≤ b + G.2.2) (t_v0 : ok G 7 v0) (h : f_X8_repeat G v0 v1 Q S) : J p l e rm_X8_repeat s m args below meth c b D cy 3 (zV b D cy below args s G Q) 0 0 G S 0 [(0, .ref (b + v0)), (1, .int v1)] [] := by
  unfold f_X8_repeat at h
  refine jB C [(.aload_n 0, 1, 0)] 1 [(0, .ref (b + v0)), (1, .int v1)] [.ref (b + v0)] (by decide +kernel) rfl rfl ?_
  refine jGetI C 4 (by decide +kernel : decode cX8_repeat 1 = .ok (.getfield 31, 3)) rfl t_v0 kX8 5 (by decide) rfl rfl (by decide) wd_255 ?_
  refine jB C [(.iconst 1, 1, 1), (.isub, 1, 0)] 6 [(0, .ref (b + v0)), (1, .int v1)] [.int ((S.1 v0 5) - 1)] (by decide +kernel) rfl rfl ?_
  refine jTopI (fun x1 e_x1 => ?_)
  have h := h x1 e_x1
  refine jB C [(.istore_n 2, 1, 0), (.iload_n 2, 1, 0)] 8 [(2, .int x1), (0, .ref (b + v0)), (1, .int v1)] [.int x1] (by decide +kernel) rfl rfl ?_
  refine jIf_lt C 11 27 (by decide +kernel : decode cX8_repeat 8 = .ok (.ifCond .lt 19, 3)) rfl rfl (fun c2 => ?_) (fun c2 => ?_)
  · have h := it1 h c2
    exact jRetV C (by decide +kernel : decode cX8_repeat 27 = .ok (.return_, 1)) (Nat.le_refl _) (Nat.le_refl _) ⟨rfl, h⟩
  · have h := it2 h c2
    refine jB C [(.iload_n 2, 1, 0), (.aload_n 0, 1, 0)] 13 [(2, .int x1), (0, .ref (b + v0)), (1, .int v1)] [.ref (b + v0), .int x1] (by decide +kernel) rfl rfl ?_
    obtain ⟨a3, e_a3, h⟩ := h
    refine jGetR C 16 (by decide +kernel : decode cX8_repeat 13 = .ok (.getfield 19, 3)) rfl t_v0 kX8 1 (by decide) rfl rfl (by decide) wd_250 e_a3 rfl (fun t_a3 => ?_)
    refine jAlen11 C 17 (by decide +kernel : decode cX8_repeat 16 = .ok (.arraylength, 1)) rfl t_a3 ?_
    refine jIcmp_ge C 20 27 (by decide +kernel : decode cX8_repeat 17 = .ok (.if_icmp .ge 10, 3)) rfl rfl (fun c4 => ?_) (fun c4 => ?_)
    · have h := it1 h c4
      exact jRetV C (by decide +kernel : decode cX8_repeat 27 = .ok (.return_, 1)) (Nat.le_refl _) (Nat.le_refl _) ⟨rfl, h⟩
    · have h := it2 h c4
      refine jB C [(.aload_n 0, 1, 0)] 21 [(2, .int x1), (0, .ref (b + v0)), (1, .int v1)] [.ref (b + v0)] (by decide +kernel) rfl rfl ?_
      obtain ⟨a5, e_a5, h⟩ := h
      refine jGetR C 24 (by decide +kernel : decode cX8_repeat 21 = .ok (.getfield 19, 3)) rfl t_v0 kX8 1 (by decide) rfl rfl (by decide) wd_250 e_a5 rfl (fun t_a5 => ?_)
      refine jB C [(.iload_n 2, 1, 0), (.iload_n 1, 1, 0)] 26 [(2, .int x1), (0, .ref (b + v0)), (1, .int v1)] [.int v1, .int x1, .ref (b + a5)] (by decide +kernel) rfl rfl ?_
      obtain ⟨y6, h⟩ := h
      refine jIast C 27 (by decide +kernel : decode cX8_repeat 26 = .ok (.iastore, 1)) rfl hE t_a5 y6 ?_
      refine jTopS (fun S7 e_S7 => ?_)
      have h := h S7 e_S7
      exact jRetV C (by decide +kernel : decode cX8_repeat 27 = .ok (.return_, 1)) (Nat.le_refl _) (Nat.le_refl _) ⟨rfl, h⟩
theorem ok_X8_repeat {G : Gm} {v0 : Nat} {v1 : Int32} {S : St} {Q : St → Prop} (t_v0 : ok G 7 v0) (h : f_X8_repeat G v0 v1 Q S) : MT yX8_repeat cX8_repeat 3 none rm_X8_repeat 0 0 (fun b => [.ref (b + v0), .int v1]) G S (QV (fun G1 S1 => G1 = G ∧ Q S1)) := MT.ofJ (by decide) (fun b => [(0, .ref (b + v0)), (1, .int v1)]) (fun b => rfl) (fun b => Nat.le_of_ble_eq_true rfl) (fun l b D cy p e s m below meth c C hE hn => j_X8_repeat C hE t_v0 h)
theorem hd_X8_repeat : yX8_repeat.cls ≠ "java/lang/invoke/MethodHandle" ∧ yX8_repeat.cls ≠ "java/lang/invoke/VarHandle" ∧ (parseMethodDescriptor yX8_repeat.desc).map (fun d => d.parameters.length) = some 1 := by decide +kernel
def f_X8_aim (G : Gm) (v0 : Nat) (v1 : Int32) (Q : St → Prop) (S : St) : Prop :=
  (if v1 < 0 then Q S else (∃ a2, S.2.2 v0 4 = some a2 ∧ (if (nI (G.2.1 a2)) ≤ (v1 + 1) then Q S else (∃ a4, S.2.2 v0 4 = some a4 ∧ (vp_in (v1 + 1) (G.2.1 a4) ∧ ∀ S6, S6 = uI S a4 (v1 + 1).toNatClampNeg (S.1 v0 6) → Q S6)))))
abbrev rm_X8_aim : Room := { frames := 0, cells := 0, slots := 0, locals := 0 }
set_option maxHeartbeats 4000000 in
set_option maxRecDepth 100000 in
theorem j_X8_aim {p : Program} {l : Launch} {e : Env} {s : State} {m : MethodId} {args : Array Value} {below : List Frame} {meth : Method} {c : Code} {b : Nat} {D : va_G} {cy : Nat → ClassId} {G : Gm} {v0 : Nat} {v1 : Int32} {S : St} {Q : St → Prop} (C : CX p s m args meth c b D cy cX8_aim RX8 2 none) (hE : s.heap.size + 0 ≤ b + G.2.2) (t_v0 : ok G 7 v0) (h : f_X8_aim G v0 v1 Q S) : J p l e rm_X8_aim s m args below meth c b D cy 2 (zV b D cy below args s G Q) 0 0 G S 0 [(0, .ref (b + v0)), (1, .int v1)] [] := by
  unfold f_X8_aim at h
  refine jB C [(.iload_n 1, 1, 0)] 1 [(0, .ref (b + v0)), (1, .int v1)] [.int v1] (by decide +kernel) rfl rfl ?_
  refine jIf_lt C 4 27 (by decide +kernel : decode cX8_aim 1 = .ok (.ifCond .lt 26, 3)) rfl rfl (fun c1 => ?_) (fun c1 => ?_)
  · have h := it1 h c1
    exact jRetV C (by decide +kernel : decode cX8_aim 27 = .ok (.return_, 1)) (Nat.le_refl _) (Nat.le_refl _) ⟨rfl, h⟩
  · have h := it2 h c1
    refine jB C [(.iload_n 1, 1, 0), (.iconst 1, 1, 1), (.iadd, 1, 0), (.aload_n 0, 1, 0)] 8 [(0, .ref (b + v0)), (1, .int v1)] [.ref (b + v0), .int (v1 + 1)] (by decide +kernel) rfl rfl ?_
    obtain ⟨a2, e_a2, h⟩ := h
    refine jGetR C 11 (by decide +kernel : decode cX8_aim 8 = .ok (.getfield 28, 3)) rfl t_v0 kX8 4 (by decide) rfl rfl (by decide) wd_253 e_a2 rfl (fun t_a2 => ?_)
    refine jAlen11 C 12 (by decide +kernel : decode cX8_aim 11 = .ok (.arraylength, 1)) rfl t_a2 ?_
    refine jIcmp_ge C 15 27 (by decide +kernel : decode cX8_aim 12 = .ok (.if_icmp .ge 15, 3)) rfl rfl (fun c3 => ?_) (fun c3 => ?_)
    · have h := it1 h c3
      exact jRetV C (by decide +kernel : decode cX8_aim 27 = .ok (.return_, 1)) (Nat.le_refl _) (Nat.le_refl _) ⟨rfl, h⟩
    · have h := it2 h c3
      refine jB C [(.aload_n 0, 1, 0)] 16 [(0, .ref (b + v0)), (1, .int v1)] [.ref (b + v0)] (by decide +kernel) rfl rfl ?_
      obtain ⟨a4, e_a4, h⟩ := h
      refine jGetR C 19 (by decide +kernel : decode cX8_aim 16 = .ok (.getfield 28, 3)) rfl t_v0 kX8 4 (by decide) rfl rfl (by decide) wd_253 e_a4 rfl (fun t_a4 => ?_)
      refine jB C [(.iload_n 1, 1, 0), (.iconst 1, 1, 1), (.iadd, 1, 0), (.aload_n 0, 1, 0)] 23 [(0, .ref (b + v0)), (1, .int v1)] [.ref (b + v0), .int (v1 + 1), .ref (b + a4)] (by decide +kernel) rfl rfl ?_
      refine jGetI C 26 (by decide +kernel : decode cX8_aim 23 = .ok (.getfield 35, 3)) rfl t_v0 kX8 6 (by decide) rfl rfl (by decide) wd_258 ?_
      obtain ⟨y5, h⟩ := h
      refine jIast C 27 (by decide +kernel : decode cX8_aim 26 = .ok (.iastore, 1)) rfl hE t_a4 y5 ?_
      refine jTopS (fun S6 e_S6 => ?_)
      have h := h S6 e_S6
      exact jRetV C (by decide +kernel : decode cX8_aim 27 = .ok (.return_, 1)) (Nat.le_refl _) (Nat.le_refl _) ⟨rfl, h⟩
theorem ok_X8_aim {G : Gm} {v0 : Nat} {v1 : Int32} {S : St} {Q : St → Prop} (t_v0 : ok G 7 v0) (h : f_X8_aim G v0 v1 Q S) : MT yX8_aim cX8_aim 2 none rm_X8_aim 0 0 (fun b => [.ref (b + v0), .int v1]) G S (QV (fun G1 S1 => G1 = G ∧ Q S1)) := MT.ofJ (by decide) (fun b => [(0, .ref (b + v0)), (1, .int v1)]) (fun b => rfl) (fun b => Nat.le_of_ble_eq_true rfl) (fun l b D cy p e s m below meth c C hE hn => j_X8_aim C hE t_v0 h)
theorem hd_X8_aim : yX8_aim.cls ≠ "java/lang/invoke/MethodHandle" ∧ yX8_aim.cls ≠ "java/lang/invoke/VarHandle" ∧ (parseMethodDescriptor yX8_aim.desc).map (fun d => d.parameters.length) = some 1 := by decide +kernel
def f_X5_addLaw (G : Gm) (v0 : Nat) (v1 : Nat) (Q : Int32 → St → Prop) (S : St) : Prop :=
  (if (S.1 v0 8) < 0 then Q (-1) S else (if (S.1 v0 8) < 6 then (∃ a3, S.2.2 v0 9 = some a3 ∧ (vp_in (S.1 v0 8) (G.2.1 a3) ∧ ∀ S5, S5 = uR S a3 (S.1 v0 8).toNatClampNeg (some v1) → (∀ S6, S6 = uI S5 v0 8 ((S5.1 v0 8) + 1) → Q ((S6.1 v0 8) - 1) S6))) else Q (-1) S))
abbrev rm_X5_addLaw : Room := { frames := 0, cells := 0, slots := 0, locals := 0 }
set_option maxHeartbeats 4000000 in
set_option maxRecDepth 100000 in
theorem j_X5_addLaw {p : Program} {l : Launch} {e : Env} {s : State} {m : MethodId} {args : Array Value} {below : List Frame} {meth : Method} {c : Code} {b : Nat} {D : va_G} {cy : Nat → ClassId} {G : Gm} {v0 : Nat} {v1 : Nat} {S : St} {Q : Int32 → St → Prop} (C : CX p s m args meth c b D cy cX5_addLaw RX5 2 (some .int)) (hE : s.heap.size + 0 ≤ b + G.2.2) (t_v0 : ok G 4 v0) (t_v1 : ok G 7 v1) (h : f_X5_addLaw G v0 v1 Q S) : J p l e rm_X5_addLaw s m args below meth c b D cy 2 (zI b D cy below args s G Q) 0 0 G S 0 [(0, .ref (b + v0)), (1, .ref (b + v1))] [] := by
  unfold f_X5_addLaw at h
  refine jB C [(.aload_n 0, 1, 0)] 1 [(0, .ref (b + v0)), (1, .ref (b + v1))] [.ref (b + v0)] (by decide +kernel) rfl rfl ?_
  refine jGetI C 4 (by decide +kernel : decode cX5_addLaw 1 = .ok (.getfield 52, 3)) rfl t_v0 kX5 8 (by decide) rfl rfl (by decide) wd_53 ?_
  refine jIf_lt C 7 16 (by decide +kernel : decode cX5_addLaw 4 = .ok (.ifCond .lt 12, 3)) rfl rfl (fun c1 => ?_) (fun c1 => ?_)
  · have h := it1 h c1
    refine jB C [(.iconst (-1), 1, (-1))] 17 [(0, .ref (b + v0)), (1, .ref (b + v1))] [.int (-1)] (by decide +kernel) rfl rfl ?_
    exact jRetI C (by decide +kernel : decode cX5_addLaw 17 = .ok (.ireturn, 1)) (Nat.le_refl _) (Nat.le_refl _) ⟨rfl, h⟩
  · have h := it2 h c1
    refine jB C [(.aload_n 0, 1, 0)] 8 [(0, .ref (b + v0)), (1, .ref (b + v1))] [.ref (b + v0)] (by decide +kernel) rfl rfl ?_
    refine jGetI C 11 (by decide +kernel : decode cX5_addLaw 8 = .ok (.getfield 52, 3)) rfl t_v0 kX5 8 (by decide) rfl rfl (by decide) wd_53 ?_
    refine jB C [(.bipush 6, 2, 6)] 13 [(0, .ref (b + v0)), (1, .ref (b + v1))] [.int 6, .int (S.1 v0 8)] (by decide +kernel) rfl rfl ?_
    refine jIcmp_lt C 16 18 (by decide +kernel : decode cX5_addLaw 13 = .ok (.if_icmp .lt 5, 3)) rfl rfl (fun c2 => ?_) (fun c2 => ?_)
    · have h := it1 h c2
      refine jB C [(.aload_n 0, 1, 0)] 19 [(0, .ref (b + v0)), (1, .ref (b + v1))] [.ref (b + v0)] (by decide +kernel) rfl rfl ?_
      obtain ⟨a3, e_a3, h⟩ := h
      refine jGetR C 22 (by decide +kernel : decode cX5_addLaw 19 = .ok (.getfield 32, 3)) rfl t_v0 kX5 9 (by decide) rfl rfl (by decide) wd_55 e_a3 rfl (fun t_a3 => ?_)
      refine jB C [(.aload_n 0, 1, 0)] 23 [(0, .ref (b + v0)), (1, .ref (b + v1))] [.ref (b + v0), .ref (b + a3)] (by decide +kernel) rfl rfl ?_
      refine jGetI C 26 (by decide +kernel : decode cX5_addLaw 23 = .ok (.getfield 52, 3)) rfl t_v0 kX5 8 (by decide) rfl rfl (by decide) wd_53 ?_
      refine jB C [(.aload_n 1, 1, 0)] 27 [(0, .ref (b + v0)), (1, .ref (b + v1))] [.ref (b + v1), .int (S.1 v0 8), .ref (b + a3)] (by decide +kernel) rfl rfl ?_
      obtain ⟨y4, h⟩ := h
      refine jAast15 C 28 (by decide +kernel : decode cX5_addLaw 27 = .ok (.aastore, 1)) rfl hE t_a3 y4 t_v1 ?_
      refine jTopS (fun S5 e_S5 => ?_)
      have h := h S5 e_S5
      refine jB C [(.aload_n 0, 1, 0), (.dup, 1, 0)] 30 [(0, .ref (b + v0)), (1, .ref (b + v1))] [.ref (b + v0), .ref (b + v0)] (by decide +kernel) rfl rfl ?_
      refine jGetI C 33 (by decide +kernel : decode cX5_addLaw 30 = .ok (.getfield 52, 3)) rfl t_v0 kX5 8 (by decide) rfl rfl (by decide) wd_53 ?_
      refine jB C [(.iconst 1, 1, 1), (.iadd, 1, 0)] 35 [(0, .ref (b + v0)), (1, .ref (b + v1))] [.int ((S5.1 v0 8) + 1), .ref (b + v0)] (by decide +kernel) rfl rfl ?_
      refine jPutI C 38 (by decide +kernel : decode cX5_addLaw 35 = .ok (.putfield 52, 3)) rfl hE t_v0 kX5 8 (by decide) rfl rfl (by decide) rfl wd_53 rfl rfl rfl ?_
      refine jTopS (fun S6 e_S6 => ?_)
      have h := h S6 e_S6
      refine jB C [(.aload_n 0, 1, 0)] 39 [(0, .ref (b + v0)), (1, .ref (b + v1))] [.ref (b + v0)] (by decide +kernel) rfl rfl ?_
      refine jGetI C 42 (by decide +kernel : decode cX5_addLaw 39 = .ok (.getfield 52, 3)) rfl t_v0 kX5 8 (by decide) rfl rfl (by decide) wd_53 ?_
      refine jB C [(.iconst 1, 1, 1), (.isub, 1, 0)] 44 [(0, .ref (b + v0)), (1, .ref (b + v1))] [.int ((S6.1 v0 8) - 1)] (by decide +kernel) rfl rfl ?_
      exact jRetI C (by decide +kernel : decode cX5_addLaw 44 = .ok (.ireturn, 1)) (Nat.le_refl _) (Nat.le_refl _) ⟨rfl, h⟩
    · have h := it2 h c2
      refine jB C [(.iconst (-1), 1, (-1))] 17 [(0, .ref (b + v0)), (1, .ref (b + v1))] [.int (-1)] (by decide +kernel) rfl rfl ?_
      exact jRetI C (by decide +kernel : decode cX5_addLaw 17 = .ok (.ireturn, 1)) (Nat.le_refl _) (Nat.le_refl _) ⟨rfl, h⟩
theorem ok_X5_addLaw {G : Gm} {v0 : Nat} {v1 : Nat} {S : St} {Q : Int32 → St → Prop} (t_v0 : ok G 4 v0) (t_v1 : ok G 7 v1) (h : f_X5_addLaw G v0 v1 Q S) : MT yX5_addLaw cX5_addLaw 2 (some .int) rm_X5_addLaw 0 0 (fun b => [.ref (b + v0), .ref (b + v1)]) G S (QI (fun r G1 S1 => G1 = G ∧ Q r S1)) := MT.ofJ (by decide) (fun b => [(0, .ref (b + v0)), (1, .ref (b + v1))]) (fun b => rfl) (fun b => Nat.le_of_ble_eq_true rfl) (fun l b D cy p e s m below meth c C hE hn => j_X5_addLaw C hE t_v0 t_v1 h)
theorem hd_X5_addLaw : yX5_addLaw.cls ≠ "java/lang/invoke/MethodHandle" ∧ yX5_addLaw.cls ≠ "java/lang/invoke/VarHandle" ∧ (parseMethodDescriptor yX5_addLaw.desc).map (fun d => d.parameters.length) = some 1 := by decide +kernel
def f_X10_lens (G : Gm) (v0 : Nat) (v1 : Int32) (v2 : Int32) (Q : Int32 → St → Prop) (S : St) : Prop :=
  f_X10_isLens G v1 (fun r2 S1 => (if r2 = 0 then Q (-1) S1 else f_X10_isNumber G v2 (fun r5 S4 => (if r5 = 0 then Q (-1) S4 else f_X3_bend G v1 v2 (fun r8 S7 => Q r8 S7) S4)) S1)) S
abbrev rm_X10_lens : Room := { frames := 1, cells := 0, slots := 0, locals := 23 }
set_option maxHeartbeats 4000000 in
set_option maxRecDepth 100000 in
theorem j_X10_lens {p : Program} {l : Launch} {e : Env} {s : State} {m : MethodId} {args : Array Value} {below : List Frame} {meth : Method} {c : Code} {b : Nat} {D : va_G} {cy : Nat → ClassId} {G : Gm} {v0 : Nat} {v1 : Int32} {v2 : Int32} {S : St} {Q : Int32 → St → Prop} (C : CX p s m args meth c b D cy cX10_lens RX10 3 (some .int)) (hE : s.heap.size + 0 ≤ b + G.2.2) (t_v0 : ok G 9 v0) (h : f_X10_lens G v0 v1 v2 Q S) : J p l e rm_X10_lens s m args below meth c b D cy 3 (zI b D cy below args s G Q) 0 0 G S 0 [(0, .ref (b + v0)), (1, .int v1), (2, .int v2)] [] := by
  unfold f_X10_lens at h
  refine jB C [(.iload_n 1, 1, 0)] 1 [(0, .ref (b + v0)), (1, .int v1), (2, .int v2)] [.int v1] (by decide +kernel) rfl rfl ?_
  refine jcS_I C 4 (rest := []) (ok_X10_isLens h) (by decide +kernel : decode cX10_lens 1 = .ok (.invokestatic 146, 3)) rfl wd_527 wd_528 wd_1 wd_529 ⟨rfl, rfl⟩ hd_X10_isLens ⟨Nat.le_of_ble_eq_true rfl, Nat.le_of_ble_eq_true rfl⟩ rfl rfl (Nat.le_of_ble_eq_true rfl) ⟨Nat.zero_le _, Nat.zero_le _⟩ (fun r2 S1 h => ?_)
  refine jIf_eq C 7 22 (by decide +kernel : decode cX10_lens 4 = .ok (.ifCond .eq 18, 3)) rfl rfl (fun c3 => ?_) (fun c3 => ?_)
  · have h := it1 h c3
    refine jB C [(.iconst (-1), 1, (-1))] 23 [(0, .ref (b + v0)), (1, .int v1), (2, .int v2)] [.int (-1)] (by decide +kernel) rfl rfl ?_
    exact jRetI C (by decide +kernel : decode cX10_lens 23 = .ok (.ireturn, 1)) (Nat.le_refl _) (Nat.le_refl _) ⟨rfl, h⟩
  · have h := it2 h c3
    refine jB C [(.iload_n 2, 1, 0)] 8 [(0, .ref (b + v0)), (1, .int v1), (2, .int v2)] [.int v2] (by decide +kernel) rfl rfl ?_
    refine jcS_I C 11 (rest := []) (ok_X10_isNumber h) (by decide +kernel : decode cX10_lens 8 = .ok (.invokestatic 149, 3)) rfl wd_530 wd_531 wd_1 wd_532 ⟨rfl, rfl⟩ hd_X10_isNumber ⟨Nat.le_of_ble_eq_true rfl, Nat.le_of_ble_eq_true rfl⟩ rfl rfl (Nat.le_of_ble_eq_true rfl) ⟨Nat.zero_le _, Nat.zero_le _⟩ (fun r5 S4 h => ?_)
    refine jIf_eq C 14 22 (by decide +kernel : decode cX10_lens 11 = .ok (.ifCond .eq 11, 3)) rfl rfl (fun c6 => ?_) (fun c6 => ?_)
    · have h := it1 h c6
      refine jB C [(.iconst (-1), 1, (-1))] 23 [(0, .ref (b + v0)), (1, .int v1), (2, .int v2)] [.int (-1)] (by decide +kernel) rfl rfl ?_
      exact jRetI C (by decide +kernel : decode cX10_lens 23 = .ok (.ireturn, 1)) (Nat.le_refl _) (Nat.le_refl _) ⟨rfl, h⟩
    · have h := it2 h c6
      refine jB C [(.iload_n 1, 1, 0), (.iload_n 2, 1, 0)] 16 [(0, .ref (b + v0)), (1, .int v1), (2, .int v2)] [.int v2, .int v1] (by decide +kernel) rfl rfl ?_
      refine jcSN_I C 19 (rest := []) (ok_X3_bend h) (by decide +kernel : decode cX10_lens 16 = .ok (.invokestatic 152, 3)) rfl wn_533 wd_424 wd_13 wd_425 ⟨rfl, rfl⟩ hd_X3_bend ⟨Nat.le_of_ble_eq_true rfl, Nat.le_of_ble_eq_true rfl⟩ rfl rfl (Nat.le_of_ble_eq_true rfl) ⟨Nat.zero_le _, Nat.zero_le _⟩ (fun r8 S7 h => ?_)
      refine jGoto C 23 (by decide +kernel : decode cX10_lens 19 = .ok (.goto 4, 3)) rfl ?_
      exact jRetI C (by decide +kernel : decode cX10_lens 23 = .ok (.ireturn, 1)) (Nat.le_refl _) (Nat.le_refl _) ⟨rfl, h⟩
theorem ok_X10_lens {G : Gm} {v0 : Nat} {v1 : Int32} {v2 : Int32} {S : St} {Q : Int32 → St → Prop} (t_v0 : ok G 9 v0) (h : f_X10_lens G v0 v1 v2 Q S) : MT yX10_lens cX10_lens 3 (some .int) rm_X10_lens 0 0 (fun b => [.ref (b + v0), .int v1, .int v2]) G S (QI (fun r G1 S1 => G1 = G ∧ Q r S1)) := MT.ofJ (by decide) (fun b => [(0, .ref (b + v0)), (1, .int v1), (2, .int v2)]) (fun b => rfl) (fun b => Nat.le_of_ble_eq_true rfl) (fun l b D cy p e s m below meth c C hE hn => j_X10_lens C hE t_v0 h)
theorem hd_X10_lens : yX10_lens.cls ≠ "java/lang/invoke/MethodHandle" ∧ yX10_lens.cls ≠ "java/lang/invoke/VarHandle" ∧ (parseMethodDescriptor yX10_lens.desc).map (fun d => d.parameters.length) = some 2 := by decide +kernel
def f_X4_suits (G : Gm) (v0 : Nat) (v1 : Nat) (v2 : Int32) (v3 : Int32) (Q : Int32 → St → Prop) (S : St) : Prop :=
  f_X5_termOf G v1 3 (fun r2 S1 => f_X3_through G v3 r2 (fun r4 S3 => (∃ a5, S3.2.2 v0 0 = some a5 ∧ f_X2_deed G a5 v1 v2 r4 (fun r7 S6 => f_X5_wantedOf G v1 v2 (fun r9 S8 => (if r7 = r9 then Q 1 S8 else Q 0 S8)) S6) S3)) S1) S
abbrev rm_X4_suits : Room := { frames := 4, cells := 0, slots := 0, locals := 106 }
set_option maxHeartbeats 4000000 in
set_option maxRecDepth 100000 in
theorem j_X4_suits {p : Program} {l : Launch} {e : Env} {s : State} {m : MethodId} {args : Array Value} {below : List Frame} {meth : Method} {c : Code} {b : Nat} {D : va_G} {cy : Nat → ClassId} {G : Gm} {v0 : Nat} {v1 : Nat} {v2 : Int32} {v3 : Int32} {S : St} {Q : Int32 → St → Prop} (C : CX p s m args meth c b D cy cX4_suits RX4 5 (some .boolean)) (hE : s.heap.size + 0 ≤ b + G.2.2) (t_v0 : ok G 3 v0) (t_v1 : ok G 4 v1) (h : f_X4_suits G v0 v1 v2 v3 Q S) : J p l e rm_X4_suits s m args below meth c b D cy 5 (zI b D cy below args s G Q) 0 0 G S 0 [(0, .ref (b + v0)), (1, .ref (b + v1)), (2, .int v2), (3, .int v3)] [] := by
  unfold f_X4_suits at h
  refine jB C [(.iload_n 3, 1, 0), (.aload_n 1, 1, 0), (.iconst 3, 1, 3)] 3 [(0, .ref (b + v0)), (1, .ref (b + v1)), (2, .int v2), (3, .int v3)] [.int 3, .ref (b + v1), .int v3] (by decide +kernel) rfl rfl ?_
  refine jcVN_I C 6 (rest := [.int v3]) (ok_X5_termOf t_v1 h) (by decide +kernel : decode cX4_suits 3 = .ok (.invokevirtual 55, 3)) rfl wn_922 wd_418 wp_11 wd_2 wd_419 ⟨rfl, rfl⟩ hd_X5_termOf ⟨Nat.le_of_ble_eq_true rfl, Nat.le_of_ble_eq_true rfl⟩ t_v1 kX5 (by decide) rfl rfl rfl (Nat.le_of_ble_eq_true rfl) ⟨Nat.zero_le _, Nat.zero_le _⟩ (fun r2 S1 h => ?_)
  refine jcSN_I C 9 (rest := []) (ok_X3_through h) (by decide +kernel : decode cX4_suits 6 = .ok (.invokestatic 99, 3)) rfl wn_962 wd_421 wd_13 wd_422 ⟨rfl, rfl⟩ hd_X3_through ⟨Nat.le_of_ble_eq_true rfl, Nat.le_of_ble_eq_true rfl⟩ rfl rfl (Nat.le_of_ble_eq_true rfl) ⟨Nat.zero_le _, Nat.zero_le _⟩ (fun r4 S3 h => ?_)
  refine jB C [(.istore 4, 2, 0), (.aload_n 0, 1, 0)] 12 [(4, .int r4), (0, .ref (b + v0)), (1, .ref (b + v1)), (2, .int v2), (3, .int v3)] [.ref (b + v0)] (by decide +kernel) rfl rfl ?_
  obtain ⟨a5, e_a5, h⟩ := h
  refine jGetR C 15 (by decide +kernel : decode cX4_suits 12 = .ok (.getfield 12, 3)) rfl t_v0 kX4 0 (by decide) rfl rfl (by decide) wd_191 e_a5 rfl (fun t_a5 => ?_)
  refine jB C [(.aload_n 1, 1, 0), (.iload_n 2, 1, 0), (.iload 4, 2, 0)] 19 [(4, .int r4), (0, .ref (b + v0)), (1, .ref (b + v1)), (2, .int v2), (3, .int v3)] [.int r4, .int v2, .ref (b + v1), .ref (b + a5)] (by decide +kernel) rfl rfl ?_
  refine jcVN_I C 22 (rest := []) (ok_X2_deed t_a5 t_v1 h) (by decide +kernel : decode cX4_suits 19 = .ok (.invokevirtual 134, 3)) rfl wn_1000 wd_428 wp_12 wd_4 wd_429 ⟨rfl, rfl⟩ hd_X2_deed ⟨Nat.le_of_ble_eq_true rfl, Nat.le_of_ble_eq_true rfl⟩ t_a5 kX2 (by decide) rfl rfl rfl (Nat.le_of_ble_eq_true rfl) ⟨Nat.zero_le _, Nat.zero_le _⟩ (fun r7 S6 h => ?_)
  refine jB C [(.aload_n 1, 1, 0), (.iload_n 2, 1, 0)] 24 [(4, .int r4), (0, .ref (b + v0)), (1, .ref (b + v1)), (2, .int v2), (3, .int v3)] [.int v2, .ref (b + v1), .int r7] (by decide +kernel) rfl rfl ?_
  refine jcVN_I C 27 (rest := [.int r7]) (ok_X5_wantedOf t_v1 h) (by decide +kernel : decode cX4_suits 24 = .ok (.invokevirtual 138, 3)) rfl wn_1001 wd_487 wp_22 wd_2 wd_488 ⟨rfl, rfl⟩ hd_X5_wantedOf ⟨Nat.le_of_ble_eq_true rfl, Nat.le_of_ble_eq_true rfl⟩ t_v1 kX5 (by decide) rfl rfl rfl (Nat.le_of_ble_eq_true rfl) ⟨Nat.zero_le _, Nat.zero_le _⟩ (fun r9 S8 h => ?_)
  refine jIcmp_ne C 30 34 (by decide +kernel : decode cX4_suits 27 = .ok (.if_icmp .ne 7, 3)) rfl rfl (fun c10 => ?_) (fun c10 => ?_)
  · have h := it2 h c10
    refine jB C [(.iconst 0, 1, 0)] 35 [(4, .int r4), (0, .ref (b + v0)), (1, .ref (b + v1)), (2, .int v2), (3, .int v3)] [.int 0] (by decide +kernel) rfl rfl ?_
    exact jRetZ C (by decide +kernel : decode cX4_suits 35 = .ok (.ireturn, 1)) (Nat.le_refl _) (Nat.le_refl _) (by decide) ⟨rfl, h⟩
  · have h := it1 h c10
    refine jB C [(.iconst 1, 1, 1)] 31 [(4, .int r4), (0, .ref (b + v0)), (1, .ref (b + v1)), (2, .int v2), (3, .int v3)] [.int 1] (by decide +kernel) rfl rfl ?_
    refine jGoto C 35 (by decide +kernel : decode cX4_suits 31 = .ok (.goto 4, 3)) rfl ?_
    exact jRetZ C (by decide +kernel : decode cX4_suits 35 = .ok (.ireturn, 1)) (Nat.le_refl _) (Nat.le_refl _) (by decide) ⟨rfl, h⟩
theorem ok_X4_suits {G : Gm} {v0 : Nat} {v1 : Nat} {v2 : Int32} {v3 : Int32} {S : St} {Q : Int32 → St → Prop} (t_v0 : ok G 3 v0) (t_v1 : ok G 4 v1) (h : f_X4_suits G v0 v1 v2 v3 Q S) : MT yX4_suits cX4_suits 5 (some .boolean) rm_X4_suits 0 0 (fun b => [.ref (b + v0), .ref (b + v1), .int v2, .int v3]) G S (QI (fun r G1 S1 => G1 = G ∧ Q r S1)) := MT.ofJ (by decide) (fun b => [(0, .ref (b + v0)), (1, .ref (b + v1)), (2, .int v2), (3, .int v3)]) (fun b => rfl) (fun b => Nat.le_of_ble_eq_true rfl) (fun l b D cy p e s m below meth c C hE hn => j_X4_suits C hE t_v0 t_v1 h)
theorem hd_X4_suits : yX4_suits.cls ≠ "java/lang/invoke/MethodHandle" ∧ yX4_suits.cls ≠ "java/lang/invoke/VarHandle" ∧ (parseMethodDescriptor yX4_suits.desc).map (fun d => d.parameters.length) = some 3 := by decide +kernel
def f_X4_mildestFor_53_n (G : Gm) (k44 : Int32 → St → Prop) (v0 : Nat) (v1 : Nat) (v2 : Int32) (v3 : Int32) (Q : Int32 → St → Prop) : Nat → Int32 → St → Prop
  | 0, _, _ => False
  | n + 1, v4, S => (if 8 ≤ v4 then k44 (v3 + 1) S else (∀ x2 : Int32, x2 = (((v3 + 1) * 10) + v4) + 1 → f_X4_suits G v0 v1 v2 x2 (fun r4 S3 => (if r4 = 0 then (f_X4_mildestFor_53_n G k44 v0 v1 v2 v3 Q n) (v4 + 1) S3 else Q x2 S3)) S))
def f_X4_mildestFor_53 (G : Gm) (k44 : Int32 → St → Prop) (v0 : Nat) (v1 : Nat) (v2 : Int32) (v3 : Int32) (Q : Int32 → St → Prop) (v4 : Int32) (S : St) : Prop := ∃ n, f_X4_mildestFor_53_n G k44 v0 v1 v2 v3 Q n v4 S
def f_X4_mildestFor_44_n (G : Gm) (v0 : Nat) (v1 : Nat) (v2 : Int32) (Q : Int32 → St → Prop) : Nat → Int32 → St → Prop
  | 0, _, _ => False
  | n + 1, v3, S => (if 8 ≤ v3 then Q (-1) S else f_X4_mildestFor_53 G (f_X4_mildestFor_44_n G v0 v1 v2 Q n) v0 v1 v2 v3 Q 1 S)
def f_X4_mildestFor_44 (G : Gm) (v0 : Nat) (v1 : Nat) (v2 : Int32) (Q : Int32 → St → Prop) (v3 : Int32) (S : St) : Prop := ∃ n, f_X4_mildestFor_44_n G v0 v1 v2 Q n v3 S
def f_X4_mildestFor_14_n (G : Gm) (v0 : Nat) (v1 : Nat) (v2 : Int32) (Q : Int32 → St → Prop) : Nat → Int32 → St → Prop
  | 0, _, _ => False
  | n + 1, v3, S => (if 8 ≤ v3 then f_X4_mildestFor_44 G v0 v1 v2 Q 1 S else f_X4_suits G v0 v1 v2 (v3 + 1) (fun r3 S2 => (if r3 = 0 then (f_X4_mildestFor_14_n G v0 v1 v2 Q n) (v3 + 1) S2 else Q (v3 + 1) S2)) S)
def f_X4_mildestFor_14 (G : Gm) (v0 : Nat) (v1 : Nat) (v2 : Int32) (Q : Int32 → St → Prop) (v3 : Int32) (S : St) : Prop := ∃ n, f_X4_mildestFor_14_n G v0 v1 v2 Q n v3 S
def f_X4_mildestFor (G : Gm) (v0 : Nat) (v1 : Nat) (v2 : Int32) (Q : Int32 → St → Prop) (S : St) : Prop :=
  f_X4_suits G v0 v1 v2 0 (fun r2 S1 => (if r2 = 0 then f_X4_mildestFor_14 G v0 v1 v2 Q 1 S1 else Q 0 S1)) S
abbrev rm_X4_mildestFor : Room := { frames := 5, cells := 0, slots := 0, locals := 130 }
set_option maxHeartbeats 4000000 in
set_option maxRecDepth 100000 in
theorem j_X4_mildestFor_53_n {p : Program} {l : Launch} {e : Env} {s : State} {m : MethodId} {args : Array Value} {below : List Frame} {meth : Method} {c : Code} {b : Nat} {D : va_G} {cy : Nat → ClassId} {G : Gm} {k44 : Int32 → St → Prop} {v0 : Nat} {v1 : Nat} {v2 : Int32} {v3 : Int32} {Q : Int32 → St → Prop} (C : CX p s m args meth c b D cy cX4_mildestFor RX4 6 (some .int)) (hE : s.heap.size + 0 ≤ b + G.2.2) (t_v0 : ok G 3 v0) (t_v1 : ok G 4 v1) (hk44 : ∀ v3' S, k44 v3' S → J p l e rm_X4_mildestFor s m args below meth c b D cy 6 (zI b D cy below args s G Q) 0 0 G S 44 [(0, .ref (b + v0)), (1, .ref (b + v1)), (2, .int v2), (3, .int (v3'))] []) : ∀ n (v4 : Int32) S, f_X4_mildestFor_53_n G k44 v0 v1 v2 v3 Q n v4 S → J p l e rm_X4_mildestFor s m args below meth c b D cy 6 (zI b D cy below args s G Q) 0 0 G S 53 [(0, .ref (b + v0)), (1, .ref (b + v1)), (2, .int v2), (3, .int v3), (4, .int v4)] [] := by
  intro n
  induction n with
  | zero => intro v4 S h; exact h.elim
  | succ n ih =>
    intro v4 S h
    unfold f_X4_mildestFor_53_n at h
    refine jB C [(.iload 4, 2, 0), (.bipush 8, 2, 8)] 57 [(0, .ref (b + v0)), (1, .ref (b + v1)), (2, .int v2), (3, .int v3), (4, .int v4)] [.int 8, .int v4] (by decide +kernel) rfl rfl ?_
    refine jIcmp_ge C 60 93 (by decide +kernel : decode cX4_mildestFor 57 = .ok (.if_icmp .ge 36, 3)) rfl rfl (fun c1 => ?_) (fun c1 => ?_)
    · have h := it1 h c1
      refine jB C [(.iinc 3 1, 3, 1)] 96 [(3, .int (v3 + 1)), (0, .ref (b + v0)), (1, .ref (b + v1)), (2, .int v2), (4, .int v4)] [] (by decide +kernel) rfl rfl ?_
      refine jGoto C 44 (by decide +kernel : decode cX4_mildestFor 96 = .ok (.goto (-52), 3)) rfl ?_
      refine jSub [1, 2, 3, 0] rfl ?_
      exact hk44 (v3 + 1) S h
    · have h := it2 h c1
      refine jB C [(.iload_n 3, 1, 0), (.iconst 1, 1, 1), (.iadd, 1, 0), (.bipush 10, 2, 10), (.imul, 1, 0), (.iload 4, 2, 0), (.iadd, 1, 0), (.iconst 1, 1, 1), (.iadd, 1, 0)] 71 [(0, .ref (b + v0)), (1, .ref (b + v1)), (2, .int v2), (3, .int v3), (4, .int v4)] [.int ((((v3 + 1) * 10) + v4) + 1)] (by decide +kernel) rfl rfl ?_
      refine jTopI (fun x2 e_x2 => ?_)
      have h := h x2 e_x2
      refine jB C [(.istore 5, 2, 0), (.aload_n 0, 1, 0), (.aload_n 1, 1, 0), (.iload_n 2, 1, 0), (.iload 5, 2, 0)] 78 [(5, .int x2), (0, .ref (b + v0)), (1, .ref (b + v1)), (2, .int v2), (3, .int v3), (4, .int v4)] [.int x2, .int v2, .ref (b + v1), .ref (b + v0)] (by decide +kernel) rfl rfl ?_
      refine jcV_I C 81 (rest := []) (ok_X4_suits t_v0 t_v1 h) (by decide +kernel : decode cX4_mildestFor 78 = .ok (.invokevirtual 173, 3)) rfl wd_1068 wd_1070 wp_95 wd_8 wd_1071 ⟨rfl, rfl⟩ hd_X4_suits ⟨Nat.le_of_ble_eq_true rfl, Nat.le_of_ble_eq_true rfl⟩ t_v0 kX4 (by decide) rfl rfl rfl (Nat.le_of_ble_eq_true rfl) ⟨Nat.zero_le _, Nat.zero_le _⟩ (fun r4 S3 h => ?_)
      refine jIf_eq C 84 87 (by decide +kernel : decode cX4_mildestFor 81 = .ok (.ifCond .eq 6, 3)) rfl rfl (fun c5 => ?_) (fun c5 => ?_)
      · have h := it1 h c5
        refine jB C [(.iinc 4 1, 3, 1)] 90 [(4, .int (v4 + 1)), (5, .int x2), (0, .ref (b + v0)), (1, .ref (b + v1)), (2, .int v2), (3, .int v3)] [] (by decide +kernel) rfl rfl ?_
        refine jGoto C 53 (by decide +kernel : decode cX4_mildestFor 90 = .ok (.goto (-37), 3)) rfl ?_
        refine jSub [2, 3, 4, 5, 0] rfl ?_
        exact ih (v4 + 1) S3 h
      · have h := it2 h c5
        refine jB C [(.iload 5, 2, 0)] 86 [(5, .int x2), (0, .ref (b + v0)), (1, .ref (b + v1)), (2, .int v2), (3, .int v3), (4, .int v4)] [.int x2] (by decide +kernel) rfl rfl ?_
        exact jRetI C (by decide +kernel : decode cX4_mildestFor 86 = .ok (.ireturn, 1)) (Nat.le_refl _) (Nat.le_refl _) ⟨rfl, h⟩
theorem j_X4_mildestFor_53 {p : Program} {l : Launch} {e : Env} {s : State} {m : MethodId} {args : Array Value} {below : List Frame} {meth : Method} {c : Code} {b : Nat} {D : va_G} {cy : Nat → ClassId} {G : Gm} {k44 : Int32 → St → Prop} {v0 : Nat} {v1 : Nat} {v2 : Int32} {v3 : Int32} {v4 : Int32} {S : St} {Q : Int32 → St → Prop} (C : CX p s m args meth c b D cy cX4_mildestFor RX4 6 (some .int)) (hE : s.heap.size + 0 ≤ b + G.2.2) (t_v0 : ok G 3 v0) (t_v1 : ok G 4 v1) (hk44 : ∀ v3' S, k44 v3' S → J p l e rm_X4_mildestFor s m args below meth c b D cy 6 (zI b D cy below args s G Q) 0 0 G S 44 [(0, .ref (b + v0)), (1, .ref (b + v1)), (2, .int v2), (3, .int (v3'))] []) (h : f_X4_mildestFor_53 G k44 v0 v1 v2 v3 Q v4 S) : J p l e rm_X4_mildestFor s m args below meth c b D cy 6 (zI b D cy below args s G Q) 0 0 G S 53 [(0, .ref (b + v0)), (1, .ref (b + v1)), (2, .int v2), (3, .int v3), (4, .int v4)] [] := by
  obtain ⟨n, h⟩ := h
  exact j_X4_mildestFor_53_n C hE t_v0 t_v1 hk44 n v4 S h
set_option maxHeartbeats 4000000 in
set_option maxRecDepth 100000 in
theorem j_X4_mildestFor_44_n {p : Program} {l : Launch} {e : Env} {s : State} {m : MethodId} {args : Array Value} {below : List Frame} {meth : Method} {c : Code} {b : Nat} {D : va_G} {cy : Nat → ClassId} {G : Gm} {v0 : Nat} {v1 : Nat} {v2 : Int32} {Q : Int32 → St → Prop} (C : CX p s m args meth c b D cy cX4_mildestFor RX4 6 (some .int)) (hE : s.heap.size + 0 ≤ b + G.2.2) (t_v0 : ok G 3 v0) (t_v1 : ok G 4 v1) : ∀ n (v3 : Int32) S, f_X4_mildestFor_44_n G v0 v1 v2 Q n v3 S → J p l e rm_X4_mildestFor s m args below meth c b D cy 6 (zI b D cy below args s G Q) 0 0 G S 44 [(0, .ref (b + v0)), (1, .ref (b + v1)), (2, .int v2), (3, .int v3)] [] := by
  intro n
  induction n with
  | zero => intro v3 S h; exact h.elim
  | succ n ih =>
    intro v3 S h
    unfold f_X4_mildestFor_44_n at h
    refine jB C [(.iload_n 3, 1, 0), (.bipush 8, 2, 8)] 47 [(0, .ref (b + v0)), (1, .ref (b + v1)), (2, .int v2), (3, .int v3)] [.int 8, .int v3] (by decide +kernel) rfl rfl ?_
    refine jIcmp_ge C 50 99 (by decide +kernel : decode cX4_mildestFor 47 = .ok (.if_icmp .ge 52, 3)) rfl rfl (fun c1 => ?_) (fun c1 => ?_)
    · have h := it1 h c1
      refine jB C [(.iconst (-1), 1, (-1))] 100 [(0, .ref (b + v0)), (1, .ref (b + v1)), (2, .int v2), (3, .int v3)] [.int (-1)] (by decide +kernel) rfl rfl ?_
      exact jRetI C (by decide +kernel : decode cX4_mildestFor 100 = .ok (.ireturn, 1)) (Nat.le_refl _) (Nat.le_refl _) ⟨rfl, h⟩
    · have h := it2 h c1
      refine jB C [(.iconst 1, 1, 1), (.istore 4, 2, 0)] 53 [(4, .int 1), (0, .ref (b + v0)), (1, .ref (b + v1)), (2, .int v2), (3, .int v3)] [] (by decide +kernel) rfl rfl ?_
      refine jSub [1, 2, 3, 4, 0] rfl ?_
      exact j_X4_mildestFor_53 C hE t_v0 t_v1 ih h
theorem j_X4_mildestFor_44 {p : Program} {l : Launch} {e : Env} {s : State} {m : MethodId} {args : Array Value} {below : List Frame} {meth : Method} {c : Code} {b : Nat} {D : va_G} {cy : Nat → ClassId} {G : Gm} {v0 : Nat} {v1 : Nat} {v2 : Int32} {v3 : Int32} {S : St} {Q : Int32 → St → Prop} (C : CX p s m args meth c b D cy cX4_mildestFor RX4 6 (some .int)) (hE : s.heap.size + 0 ≤ b + G.2.2) (t_v0 : ok G 3 v0) (t_v1 : ok G 4 v1) (h : f_X4_mildestFor_44 G v0 v1 v2 Q v3 S) : J p l e rm_X4_mildestFor s m args below meth c b D cy 6 (zI b D cy below args s G Q) 0 0 G S 44 [(0, .ref (b + v0)), (1, .ref (b + v1)), (2, .int v2), (3, .int v3)] [] := by
  obtain ⟨n, h⟩ := h
  exact j_X4_mildestFor_44_n C hE t_v0 t_v1 n v3 S h
set_option maxHeartbeats 4000000 in
set_option maxRecDepth 100000 in
theorem j_X4_mildestFor_14_n {p : Program} {l : Launch} {e : Env} {s : State} {m : MethodId} {args : Array Value} {below : List Frame} {meth : Method} {c : Code} {b : Nat} {D : va_G} {cy : Nat → ClassId} {G : Gm} {v0 : Nat} {v1 : Nat} {v2 : Int32} {Q : Int32 → St → Prop} (C : CX p s m args meth c b D cy cX4_mildestFor RX4 6 (some .int)) (hE : s.heap.size + 0 ≤ b + G.2.2) (t_v0 : ok G 3 v0) (t_v1 : ok G 4 v1) : ∀ n (v3 : Int32) S, f_X4_mildestFor_14_n G v0 v1 v2 Q n v3 S → J p l e rm_X4_mildestFor s m args below meth c b D cy 6 (zI b D cy below args s G Q) 0 0 G S 14 [(0, .ref (b + v0)), (1, .ref (b + v1)), (2, .int v2), (3, .int v3)] [] := by
  intro n
  induction n with
  | zero => intro v3 S h; exact h.elim
  | succ n ih =>
    intro v3 S h
    unfold f_X4_mildestFor_14_n at h
    refine jB C [(.iload_n 3, 1, 0), (.bipush 8, 2, 8)] 17 [(0, .ref (b + v0)), (1, .ref (b + v1)), (2, .int v2), (3, .int v3)] [.int 8, .int v3] (by decide +kernel) rfl rfl ?_
    refine jIcmp_ge C 20 42 (by decide +kernel : decode cX4_mildestFor 17 = .ok (.if_icmp .ge 25, 3)) rfl rfl (fun c1 => ?_) (fun c1 => ?_)
    · have h := it1 h c1
      refine jB C [(.iconst 1, 1, 1), (.istore_n 3, 1, 0)] 44 [(3, .int 1), (0, .ref (b + v0)), (1, .ref (b + v1)), (2, .int v2)] [] (by decide +kernel) rfl rfl ?_
      refine jSub [1, 2, 3, 0] rfl ?_
      exact j_X4_mildestFor_44 C hE t_v0 t_v1 h
    · have h := it2 h c1
      refine jB C [(.aload_n 0, 1, 0), (.aload_n 1, 1, 0), (.iload_n 2, 1, 0), (.iload_n 3, 1, 0), (.iconst 1, 1, 1), (.iadd, 1, 0)] 26 [(0, .ref (b + v0)), (1, .ref (b + v1)), (2, .int v2), (3, .int v3)] [.int (v3 + 1), .int v2, .ref (b + v1), .ref (b + v0)] (by decide +kernel) rfl rfl ?_
      refine jcV_I C 29 (rest := []) (ok_X4_suits t_v0 t_v1 h) (by decide +kernel : decode cX4_mildestFor 26 = .ok (.invokevirtual 173, 3)) rfl wd_1068 wd_1070 wp_95 wd_8 wd_1071 ⟨rfl, rfl⟩ hd_X4_suits ⟨Nat.le_of_ble_eq_true rfl, Nat.le_of_ble_eq_true rfl⟩ t_v0 kX4 (by decide) rfl rfl rfl (Nat.le_of_ble_eq_true rfl) ⟨Nat.zero_le _, Nat.zero_le _⟩ (fun r3 S2 h => ?_)
      refine jIf_eq C 32 36 (by decide +kernel : decode cX4_mildestFor 29 = .ok (.ifCond .eq 7, 3)) rfl rfl (fun c4 => ?_) (fun c4 => ?_)
      · have h := it1 h c4
        refine jB C [(.iinc 3 1, 3, 1)] 39 [(3, .int (v3 + 1)), (0, .ref (b + v0)), (1, .ref (b + v1)), (2, .int v2)] [] (by decide +kernel) rfl rfl ?_
        refine jGoto C 14 (by decide +kernel : decode cX4_mildestFor 39 = .ok (.goto (-25), 3)) rfl ?_
        refine jSub [1, 2, 3, 0] rfl ?_
        exact ih (v3 + 1) S2 h
      · have h := it2 h c4
        refine jB C [(.iload_n 3, 1, 0), (.iconst 1, 1, 1), (.iadd, 1, 0)] 35 [(0, .ref (b + v0)), (1, .ref (b + v1)), (2, .int v2), (3, .int v3)] [.int (v3 + 1)] (by decide +kernel) rfl rfl ?_
        exact jRetI C (by decide +kernel : decode cX4_mildestFor 35 = .ok (.ireturn, 1)) (Nat.le_refl _) (Nat.le_refl _) ⟨rfl, h⟩
theorem j_X4_mildestFor_14 {p : Program} {l : Launch} {e : Env} {s : State} {m : MethodId} {args : Array Value} {below : List Frame} {meth : Method} {c : Code} {b : Nat} {D : va_G} {cy : Nat → ClassId} {G : Gm} {v0 : Nat} {v1 : Nat} {v2 : Int32} {v3 : Int32} {S : St} {Q : Int32 → St → Prop} (C : CX p s m args meth c b D cy cX4_mildestFor RX4 6 (some .int)) (hE : s.heap.size + 0 ≤ b + G.2.2) (t_v0 : ok G 3 v0) (t_v1 : ok G 4 v1) (h : f_X4_mildestFor_14 G v0 v1 v2 Q v3 S) : J p l e rm_X4_mildestFor s m args below meth c b D cy 6 (zI b D cy below args s G Q) 0 0 G S 14 [(0, .ref (b + v0)), (1, .ref (b + v1)), (2, .int v2), (3, .int v3)] [] := by
  obtain ⟨n, h⟩ := h
  exact j_X4_mildestFor_14_n C hE t_v0 t_v1 n v3 S h
set_option maxHeartbeats 4000000 in
set_option maxRecDepth 100000 in
theorem j_X4_mildestFor {p : Program} {l : Launch} {e : Env} {s : State} {m : MethodId} {args : Array Value} {below : List Frame} {meth : Method} {c : Code} {b : Nat} {D : va_G} {cy : Nat → ClassId} {G : Gm} {v0 : Nat} {v1 : Nat} {v2 : Int32} {S : St} {Q : Int32 → St → Prop} (C : CX p s m args meth c b D cy cX4_mildestFor RX4 6 (some .int)) (hE : s.heap.size + 0 ≤ b + G.2.2) (t_v0 : ok G 3 v0) (t_v1 : ok G 4 v1) (h : f_X4_mildestFor G v0 v1 v2 Q S) : J p l e rm_X4_mildestFor s m args below meth c b D cy 6 (zI b D cy below args s G Q) 0 0 G S 0 [(0, .ref (b + v0)), (1, .ref (b + v1)), (2, .int v2)] [] := by
  unfold f_X4_mildestFor at h
  refine jB C [(.aload_n 0, 1, 0), (.aload_n 1, 1, 0), (.iload_n 2, 1, 0), (.iconst 0, 1, 0)] 4 [(0, .ref (b + v0)), (1, .ref (b + v1)), (2, .int v2)] [.int 0, .int v2, .ref (b + v1), .ref (b + v0)] (by decide +kernel) rfl rfl ?_
  refine jcV_I C 7 (rest := []) (ok_X4_suits t_v0 t_v1 h) (by decide +kernel : decode cX4_mildestFor 4 = .ok (.invokevirtual 173, 3)) rfl wd_1068 wd_1070 wp_95 wd_8 wd_1071 ⟨rfl, rfl⟩ hd_X4_suits ⟨Nat.le_of_ble_eq_true rfl, Nat.le_of_ble_eq_true rfl⟩ t_v0 kX4 (by decide) rfl rfl rfl (Nat.le_of_ble_eq_true rfl) ⟨Nat.zero_le _, Nat.zero_le _⟩ (fun r2 S1 h => ?_)
  refine jIf_eq C 10 12 (by decide +kernel : decode cX4_mildestFor 7 = .ok (.ifCond .eq 5, 3)) rfl rfl (fun c3 => ?_) (fun c3 => ?_)
  · have h := it1 h c3
    refine jB C [(.iconst 1, 1, 1), (.istore_n 3, 1, 0)] 14 [(3, .int 1), (0, .ref (b + v0)), (1, .ref (b + v1)), (2, .int v2)] [] (by decide +kernel) rfl rfl ?_
    refine jSub [1, 2, 3, 0] rfl ?_
    exact j_X4_mildestFor_14 C hE t_v0 t_v1 h
  · have h := it2 h c3
    refine jB C [(.iconst 0, 1, 0)] 11 [(0, .ref (b + v0)), (1, .ref (b + v1)), (2, .int v2)] [.int 0] (by decide +kernel) rfl rfl ?_
    exact jRetI C (by decide +kernel : decode cX4_mildestFor 11 = .ok (.ireturn, 1)) (Nat.le_refl _) (Nat.le_refl _) ⟨rfl, h⟩
theorem ok_X4_mildestFor {G : Gm} {v0 : Nat} {v1 : Nat} {v2 : Int32} {S : St} {Q : Int32 → St → Prop} (t_v0 : ok G 3 v0) (t_v1 : ok G 4 v1) (h : f_X4_mildestFor G v0 v1 v2 Q S) : MT yX4_mildestFor cX4_mildestFor 6 (some .int) rm_X4_mildestFor 0 0 (fun b => [.ref (b + v0), .ref (b + v1), .int v2]) G S (QI (fun r G1 S1 => G1 = G ∧ Q r S1)) := MT.ofJ (by decide) (fun b => [(0, .ref (b + v0)), (1, .ref (b + v1)), (2, .int v2)]) (fun b => rfl) (fun b => Nat.le_of_ble_eq_true rfl) (fun l b D cy p e s m below meth c C hE hn => j_X4_mildestFor C hE t_v0 t_v1 h)
theorem hd_X4_mildestFor : yX4_mildestFor.cls ≠ "java/lang/invoke/MethodHandle" ∧ yX4_mildestFor.cls ≠ "java/lang/invoke/VarHandle" ∧ (parseMethodDescriptor yX4_mildestFor.desc).map (fun d => d.parameters.length) = some 2 := by decide +kernel
def f_X10_mildest (G : Gm) (v0 : Nat) (v1 : Int32) (Q : Int32 → St → Prop) (S : St) : Prop :=
  (∃ a1, S.2.2 v0 0 = some a1 ∧ f_X5_has G a1 v1 (fun r3 S2 => (if r3 = 0 then Q (-1) S2 else (∃ a5, S2.2.2 v0 7 = some a5 ∧ (∃ a6, S2.2.2 v0 0 = some a6 ∧ f_X4_mildestFor G a5 a6 v1 (fun r8 S7 => Q r8 S7) S2)))) S)
abbrev rm_X10_mildest : Room := { frames := 6, cells := 0, slots := 0, locals := 155 }
set_option maxHeartbeats 4000000 in
set_option maxRecDepth 100000 in
theorem j_X10_mildest {p : Program} {l : Launch} {e : Env} {s : State} {m : MethodId} {args : Array Value} {below : List Frame} {meth : Method} {c : Code} {b : Nat} {D : va_G} {cy : Nat → ClassId} {G : Gm} {v0 : Nat} {v1 : Int32} {S : St} {Q : Int32 → St → Prop} (C : CX p s m args meth c b D cy cX10_mildest RX10 2 (some .int)) (hE : s.heap.size + 0 ≤ b + G.2.2) (t_v0 : ok G 9 v0) (h : f_X10_mildest G v0 v1 Q S) : J p l e rm_X10_mildest s m args below meth c b D cy 2 (zI b D cy below args s G Q) 0 0 G S 0 [(0, .ref (b + v0)), (1, .int v1)] [] := by
  unfold f_X10_mildest at h
  refine jB C [(.aload_n 0, 1, 0)] 1 [(0, .ref (b + v0)), (1, .int v1)] [.ref (b + v0)] (by decide +kernel) rfl rfl ?_
  obtain ⟨a1, e_a1, h⟩ := h
  refine jGetR C 4 (by decide +kernel : decode cX10_mildest 1 = .ok (.getfield 14, 3)) rfl t_v0 kX10 0 (by decide) rfl rfl (by decide) wd_311 e_a1 rfl (fun t_a1 => ?_)
  refine jB C [(.iload_n 1, 1, 0)] 5 [(0, .ref (b + v0)), (1, .int v1)] [.int v1, .ref (b + a1)] (by decide +kernel) rfl rfl ?_
  refine jcVN_I C 8 (rest := []) (ok_X5_has t_a1 h) (by decide +kernel : decode cX10_mildest 5 = .ok (.invokevirtual 92, 3)) rfl wn_395 wd_373 wp_4 wd_2 wd_374 ⟨rfl, rfl⟩ hd_X5_has ⟨Nat.le_of_ble_eq_true rfl, Nat.le_of_ble_eq_true rfl⟩ t_a1 kX5 (by decide) rfl rfl rfl (Nat.le_of_ble_eq_true rfl) ⟨Nat.zero_le _, Nat.zero_le _⟩ (fun r3 S2 h => ?_)
  refine jIf_eq C 11 26 (by decide +kernel : decode cX10_mildest 8 = .ok (.ifCond .eq 18, 3)) rfl rfl (fun c4 => ?_) (fun c4 => ?_)
  · have h := it1 h c4
    refine jB C [(.iconst (-1), 1, (-1))] 27 [(0, .ref (b + v0)), (1, .int v1)] [.int (-1)] (by decide +kernel) rfl rfl ?_
    exact jRetI C (by decide +kernel : decode cX10_mildest 27 = .ok (.ireturn, 1)) (Nat.le_refl _) (Nat.le_refl _) ⟨rfl, h⟩
  · have h := it2 h c4
    refine jB C [(.aload_n 0, 1, 0)] 12 [(0, .ref (b + v0)), (1, .int v1)] [.ref (b + v0)] (by decide +kernel) rfl rfl ?_
    obtain ⟨a5, e_a5, h⟩ := h
    refine jGetR C 15 (by decide +kernel : decode cX10_mildest 12 = .ok (.getfield 56, 3)) rfl t_v0 kX10 7 (by decide) rfl rfl (by decide) wd_318 e_a5 rfl (fun t_a5 => ?_)
    refine jB C [(.aload_n 0, 1, 0)] 16 [(0, .ref (b + v0)), (1, .int v1)] [.ref (b + v0), .ref (b + a5)] (by decide +kernel) rfl rfl ?_
    obtain ⟨a6, e_a6, h⟩ := h
    refine jGetR C 19 (by decide +kernel : decode cX10_mildest 16 = .ok (.getfield 14, 3)) rfl t_v0 kX10 0 (by decide) rfl rfl (by decide) wd_311 e_a6 rfl (fun t_a6 => ?_)
    refine jB C [(.iload_n 1, 1, 0)] 20 [(0, .ref (b + v0)), (1, .int v1)] [.int v1, .ref (b + a6), .ref (b + a5)] (by decide +kernel) rfl rfl ?_
    refine jcVN_I C 23 (rest := []) (ok_X4_mildestFor t_a5 t_a6 h) (by decide +kernel : decode cX10_mildest 20 = .ok (.invokevirtual 291, 3)) rfl wn_1064 wd_1066 wp_94 wd_8 wd_1067 ⟨rfl, rfl⟩ hd_X4_mildestFor ⟨Nat.le_of_ble_eq_true rfl, Nat.le_of_ble_eq_true rfl⟩ t_a5 kX4 (by decide) rfl rfl rfl (Nat.le_of_ble_eq_true rfl) ⟨Nat.zero_le _, Nat.zero_le _⟩ (fun r8 S7 h => ?_)
    refine jGoto C 27 (by decide +kernel : decode cX10_mildest 23 = .ok (.goto 4, 3)) rfl ?_
    exact jRetI C (by decide +kernel : decode cX10_mildest 27 = .ok (.ireturn, 1)) (Nat.le_refl _) (Nat.le_refl _) ⟨rfl, h⟩
theorem ok_X10_mildest {G : Gm} {v0 : Nat} {v1 : Int32} {S : St} {Q : Int32 → St → Prop} (t_v0 : ok G 9 v0) (h : f_X10_mildest G v0 v1 Q S) : MT yX10_mildest cX10_mildest 2 (some .int) rm_X10_mildest 0 0 (fun b => [.ref (b + v0), .int v1]) G S (QI (fun r G1 S1 => G1 = G ∧ Q r S1)) := MT.ofJ (by decide) (fun b => [(0, .ref (b + v0)), (1, .int v1)]) (fun b => rfl) (fun b => Nat.le_of_ble_eq_true rfl) (fun l b D cy p e s m below meth c C hE hn => j_X10_mildest C hE t_v0 h)
theorem hd_X10_mildest : yX10_mildest.cls ≠ "java/lang/invoke/MethodHandle" ∧ yX10_mildest.cls ≠ "java/lang/invoke/VarHandle" ∧ (parseMethodDescriptor yX10_mildest.desc).map (fun d => d.parameters.length) = some 1 := by decide +kernel
def f_X4_explains_46 (G : Gm) (k2 : Int32 → St → Prop) (v0 : Nat) (v1 : Int32) (v2 : Int32) (v3 : Int32) (u0 : Int32) (Q : Int32 → St → Prop) (S : St) : Prop :=
  f_X5_sightOf G v0 u0 (fun r2 S1 => (∃ a3, S1.2.2 v0 7 = some a3 ∧ (vp_in v3 (G.2.1 a3) ∧ (if r2 = (S1.1 a3 v3.toNatClampNeg) then k2 (v3 + 1) S1 else Q 0 S1)))) S
def f_X4_explains_2_n (G : Gm) (v0 : Nat) (v1 : Int32) (v2 : Int32) (Q : Int32 → St → Prop) : Nat → Int32 → St → Prop
  | 0, _, _ => False
  | n + 1, v3, S => (if (S.1 v0 5) ≤ v3 then Q 1 S else (if 8 ≤ v3 then Q 1 S else (∃ a3, S.2.2 v0 6 = some a3 ∧ (vp_in v3 (G.2.1 a3) ∧ (∀ x5 : Int32, x5 = S.1 a3 v3.toNatClampNeg → (if x5 = v1 then f_X4_explains_46 G (f_X4_explains_2_n G v0 v1 v2 Q n) v0 v1 v2 v3 v2 Q S else (if x5 = v2 then f_X4_explains_46 G (f_X4_explains_2_n G v0 v1 v2 Q n) v0 v1 v2 v3 v1 Q S else f_X4_explains_46 G (f_X4_explains_2_n G v0 v1 v2 Q n) v0 v1 v2 v3 x5 Q S)))))))
def f_X4_explains_2 (G : Gm) (v0 : Nat) (v1 : Int32) (v2 : Int32) (Q : Int32 → St → Prop) (v3 : Int32) (S : St) : Prop := ∃ n, f_X4_explains_2_n G v0 v1 v2 Q n v3 S
def f_X4_explains (G : Gm) (v0 : Nat) (v1 : Int32) (v2 : Int32) (Q : Int32 → St → Prop) (S : St) : Prop :=
  f_X4_explains_2 G v0 v1 v2 Q 0 S
abbrev rm_X4_explains : Room := { frames := 3, cells := 0, slots := 0, locals := 68 }
set_option maxHeartbeats 4000000 in
set_option maxRecDepth 100000 in
theorem j_X4_explains_46 {p : Program} {l : Launch} {e : Env} {s : State} {m : MethodId} {args : Array Value} {below : List Frame} {meth : Method} {c : Code} {b : Nat} {D : va_G} {cy : Nat → ClassId} {G : Gm} {k2 : Int32 → St → Prop} {v0 : Nat} {v1 : Int32} {v2 : Int32} {v3 : Int32} {u0 : Int32} {S : St} {Q : Int32 → St → Prop} (C : CX p s m args meth c b D cy cX4_explains RX4 6 (some .boolean)) (hE : s.heap.size + 0 ≤ b + G.2.2) (t_v0 : ok G 4 v0) (hk2 : ∀ v3' S, k2 v3' S → J p l e rm_X4_explains s m args below meth c b D cy 6 (zI b D cy below args s G Q) 0 0 G S 2 [(0, .ref (b + v0)), (1, .int v1), (2, .int v2), (3, .int (v3'))] []) (h : f_X4_explains_46 G k2 v0 v1 v2 v3 u0 Q S) : J p l e rm_X4_explains s m args below meth c b D cy 6 (zI b D cy below args s G Q) 0 0 G S 46 [(0, .ref (b + v0)), (1, .int v1), (2, .int v2), (3, .int v3)] [.int u0] := by
  unfold f_X4_explains_46 at h
  refine jB C [(.istore 5, 2, 0), (.aload_n 0, 1, 0), (.iload 5, 2, 0)] 51 [(5, .int u0), (0, .ref (b + v0)), (1, .int v1), (2, .int v2), (3, .int v3)] [.int u0, .ref (b + v0)] (by decide +kernel) rfl rfl ?_
  refine jcVN_I C 54 (rest := []) (ok_X5_sightOf t_v0 h) (by decide +kernel : decode cX4_explains 51 = .ok (.invokevirtual 61, 3)) rfl wn_923 wd_413 wp_10 wd_2 wd_414 ⟨rfl, rfl⟩ hd_X5_sightOf ⟨Nat.le_of_ble_eq_true rfl, Nat.le_of_ble_eq_true rfl⟩ t_v0 kX5 (by decide) rfl rfl rfl (Nat.le_of_ble_eq_true rfl) ⟨Nat.zero_le _, Nat.zero_le _⟩ (fun r2 S1 h => ?_)
  refine jB C [(.aload_n 0, 1, 0)] 55 [(5, .int u0), (0, .ref (b + v0)), (1, .int v1), (2, .int v2), (3, .int v3)] [.ref (b + v0), .int r2] (by decide +kernel) rfl rfl ?_
  obtain ⟨a3, e_a3, h⟩ := h
  refine jGetRN C 58 (by decide +kernel : decode cX4_explains 55 = .ok (.getfield 102, 3)) rfl t_v0 kX5 7 (by decide) rfl rfl (by decide) wn_52 e_a3 rfl (fun t_a3 => ?_)
  refine jB C [(.iload_n 3, 1, 0)] 59 [(5, .int u0), (0, .ref (b + v0)), (1, .int v1), (2, .int v2), (3, .int v3)] [.int v3, .ref (b + a3), .int r2] (by decide +kernel) rfl rfl ?_
  obtain ⟨y4, h⟩ := h
  refine jIald C 60 (by decide +kernel : decode cX4_explains 59 = .ok (.iaload, 1)) rfl t_a3 y4 ?_
  refine jIcmp_eq C 63 65 (by decide +kernel : decode cX4_explains 60 = .ok (.if_icmp .eq 5, 3)) rfl rfl (fun c5 => ?_) (fun c5 => ?_)
  · have h := it1 h c5
    refine jB C [(.iinc 3 1, 3, 1)] 68 [(3, .int (v3 + 1)), (5, .int u0), (0, .ref (b + v0)), (1, .int v1), (2, .int v2)] [] (by decide +kernel) rfl rfl ?_
    refine jGoto C 2 (by decide +kernel : decode cX4_explains 68 = .ok (.goto (-66), 3)) rfl ?_
    refine jSub [2, 3, 4, 0] rfl ?_
    exact hk2 (v3 + 1) S1 h
  · have h := it2 h c5
    refine jB C [(.iconst 0, 1, 0)] 64 [(5, .int u0), (0, .ref (b + v0)), (1, .int v1), (2, .int v2), (3, .int v3)] [.int 0] (by decide +kernel) rfl rfl ?_
    exact jRetZ C (by decide +kernel : decode cX4_explains 64 = .ok (.ireturn, 1)) (Nat.le_refl _) (Nat.le_refl _) (by decide) ⟨rfl, h⟩
set_option maxHeartbeats 4000000 in
set_option maxRecDepth 100000 in
theorem j_X4_explains_2_n {p : Program} {l : Launch} {e : Env} {s : State} {m : MethodId} {args : Array Value} {below : List Frame} {meth : Method} {c : Code} {b : Nat} {D : va_G} {cy : Nat → ClassId} {G : Gm} {v0 : Nat} {v1 : Int32} {v2 : Int32} {Q : Int32 → St → Prop} (C : CX p s m args meth c b D cy cX4_explains RX4 6 (some .boolean)) (hE : s.heap.size + 0 ≤ b + G.2.2) (t_v0 : ok G 4 v0) : ∀ n (v3 : Int32) S, f_X4_explains_2_n G v0 v1 v2 Q n v3 S → J p l e rm_X4_explains s m args below meth c b D cy 6 (zI b D cy below args s G Q) 0 0 G S 2 [(0, .ref (b + v0)), (1, .int v1), (2, .int v2), (3, .int v3)] [] := by
  intro n
  induction n with
  | zero => intro v3 S h; exact h.elim
  | succ n ih =>
    intro v3 S h
    unfold f_X4_explains_2_n at h
    refine jB C [(.iload_n 3, 1, 0), (.aload_n 0, 1, 0)] 4 [(0, .ref (b + v0)), (1, .int v1), (2, .int v2), (3, .int v3)] [.ref (b + v0), .int v3] (by decide +kernel) rfl rfl ?_
    refine jGetIN C 7 (by decide +kernel : decode cX4_explains 4 = .ok (.getfield 89, 3)) rfl t_v0 kX5 5 (by decide) rfl rfl (by decide) wn_47 ?_
    refine jIcmp_ge C 10 71 (by decide +kernel : decode cX4_explains 7 = .ok (.if_icmp .ge 64, 3)) rfl rfl (fun c1 => ?_) (fun c1 => ?_)
    · have h := it1 h c1
      refine jB C [(.iconst 1, 1, 1)] 72 [(0, .ref (b + v0)), (1, .int v1), (2, .int v2), (3, .int v3)] [.int 1] (by decide +kernel) rfl rfl ?_
      exact jRetZ C (by decide +kernel : decode cX4_explains 72 = .ok (.ireturn, 1)) (Nat.le_refl _) (Nat.le_refl _) (by decide) ⟨rfl, h⟩
    · have h := it2 h c1
      refine jB C [(.iload_n 3, 1, 0), (.bipush 8, 2, 8)] 13 [(0, .ref (b + v0)), (1, .int v1), (2, .int v2), (3, .int v3)] [.int 8, .int v3] (by decide +kernel) rfl rfl ?_
      refine jIcmp_ge C 16 71 (by decide +kernel : decode cX4_explains 13 = .ok (.if_icmp .ge 58, 3)) rfl rfl (fun c2 => ?_) (fun c2 => ?_)
      · have h := it1 h c2
        refine jB C [(.iconst 1, 1, 1)] 72 [(0, .ref (b + v0)), (1, .int v1), (2, .int v2), (3, .int v3)] [.int 1] (by decide +kernel) rfl rfl ?_
        exact jRetZ C (by decide +kernel : decode cX4_explains 72 = .ok (.ireturn, 1)) (Nat.le_refl _) (Nat.le_refl _) (by decide) ⟨rfl, h⟩
      · have h := it2 h c2
        refine jB C [(.aload_n 0, 1, 0)] 17 [(0, .ref (b + v0)), (1, .int v1), (2, .int v2), (3, .int v3)] [.ref (b + v0)] (by decide +kernel) rfl rfl ?_
        obtain ⟨a3, e_a3, h⟩ := h
        refine jGetRN C 20 (by decide +kernel : decode cX4_explains 17 = .ok (.getfield 93, 3)) rfl t_v0 kX5 6 (by decide) rfl rfl (by decide) wn_50 e_a3 rfl (fun t_a3 => ?_)
        refine jB C [(.iload_n 3, 1, 0)] 21 [(0, .ref (b + v0)), (1, .int v1), (2, .int v2), (3, .int v3)] [.int v3, .ref (b + a3)] (by decide +kernel) rfl rfl ?_
        obtain ⟨y4, h⟩ := h
        refine jIald C 22 (by decide +kernel : decode cX4_explains 21 = .ok (.iaload, 1)) rfl t_a3 y4 ?_
        refine jTopI (fun x5 e_x5 => ?_)
        have h := h x5 e_x5
        refine jB C [(.istore 4, 2, 0), (.iload 4, 2, 0), (.iload_n 1, 1, 0)] 27 [(4, .int x5), (0, .ref (b + v0)), (1, .int v1), (2, .int v2), (3, .int v3)] [.int v1, .int x5] (by decide +kernel) rfl rfl ?_
        refine jIcmp_ne C 30 34 (by decide +kernel : decode cX4_explains 27 = .ok (.if_icmp .ne 7, 3)) rfl rfl (fun c6 => ?_) (fun c6 => ?_)
        · have h := it2 h c6
          refine jB C [(.iload 4, 2, 0), (.iload_n 2, 1, 0)] 37 [(4, .int x5), (0, .ref (b + v0)), (1, .int v1), (2, .int v2), (3, .int v3)] [.int v2, .int x5] (by decide +kernel) rfl rfl ?_
          refine jIcmp_ne C 40 44 (by decide +kernel : decode cX4_explains 37 = .ok (.if_icmp .ne 7, 3)) rfl rfl (fun c7 => ?_) (fun c7 => ?_)
          · have h := it2 h c7
            refine jB C [(.iload 4, 2, 0)] 46 [(4, .int x5), (0, .ref (b + v0)), (1, .int v1), (2, .int v2), (3, .int v3)] [.int x5] (by decide +kernel) rfl rfl ?_
            refine jSub [1, 2, 3, 4] rfl ?_
            exact j_X4_explains_46 C hE t_v0 ih h
          · have h := it1 h c7
            refine jB C [(.iload_n 1, 1, 0)] 41 [(4, .int x5), (0, .ref (b + v0)), (1, .int v1), (2, .int v2), (3, .int v3)] [.int v1] (by decide +kernel) rfl rfl ?_
            refine jGoto C 46 (by decide +kernel : decode cX4_explains 41 = .ok (.goto 5, 3)) rfl ?_
            refine jSub [1, 2, 3, 4] rfl ?_
            exact j_X4_explains_46 C hE t_v0 ih h
        · have h := it1 h c6
          refine jB C [(.iload_n 2, 1, 0)] 31 [(4, .int x5), (0, .ref (b + v0)), (1, .int v1), (2, .int v2), (3, .int v3)] [.int v2] (by decide +kernel) rfl rfl ?_
          refine jGoto C 46 (by decide +kernel : decode cX4_explains 31 = .ok (.goto 15, 3)) rfl ?_
          refine jSub [1, 2, 3, 4] rfl ?_
          exact j_X4_explains_46 C hE t_v0 ih h
theorem j_X4_explains_2 {p : Program} {l : Launch} {e : Env} {s : State} {m : MethodId} {args : Array Value} {below : List Frame} {meth : Method} {c : Code} {b : Nat} {D : va_G} {cy : Nat → ClassId} {G : Gm} {v0 : Nat} {v1 : Int32} {v2 : Int32} {v3 : Int32} {S : St} {Q : Int32 → St → Prop} (C : CX p s m args meth c b D cy cX4_explains RX4 6 (some .boolean)) (hE : s.heap.size + 0 ≤ b + G.2.2) (t_v0 : ok G 4 v0) (h : f_X4_explains_2 G v0 v1 v2 Q v3 S) : J p l e rm_X4_explains s m args below meth c b D cy 6 (zI b D cy below args s G Q) 0 0 G S 2 [(0, .ref (b + v0)), (1, .int v1), (2, .int v2), (3, .int v3)] [] := by
  obtain ⟨n, h⟩ := h
  exact j_X4_explains_2_n C hE t_v0 n v3 S h
set_option maxHeartbeats 4000000 in
set_option maxRecDepth 100000 in
theorem j_X4_explains {p : Program} {l : Launch} {e : Env} {s : State} {m : MethodId} {args : Array Value} {below : List Frame} {meth : Method} {c : Code} {b : Nat} {D : va_G} {cy : Nat → ClassId} {G : Gm} {v0 : Nat} {v1 : Int32} {v2 : Int32} {S : St} {Q : Int32 → St → Prop} (C : CX p s m args meth c b D cy cX4_explains RX4 6 (some .boolean)) (hE : s.heap.size + 0 ≤ b + G.2.2) (t_v0 : ok G 4 v0) (h : f_X4_explains G v0 v1 v2 Q S) : J p l e rm_X4_explains s m args below meth c b D cy 6 (zI b D cy below args s G Q) 0 0 G S 0 [(0, .ref (b + v0)), (1, .int v1), (2, .int v2)] [] := by
  unfold f_X4_explains at h
  refine jB C [(.iconst 0, 1, 0), (.istore_n 3, 1, 0)] 2 [(3, .int 0), (0, .ref (b + v0)), (1, .int v1), (2, .int v2)] [] (by decide +kernel) rfl rfl ?_
  refine jSub [1, 2, 3, 0] rfl ?_
  exact j_X4_explains_2 C hE t_v0 h
theorem ok_X4_explains {G : Gm} {v0 : Nat} {v1 : Int32} {v2 : Int32} {S : St} {Q : Int32 → St → Prop} (t_v0 : ok G 4 v0) (h : f_X4_explains G v0 v1 v2 Q S) : MT yX4_explains cX4_explains 6 (some .boolean) rm_X4_explains 0 0 (fun b => [.ref (b + v0), .int v1, .int v2]) G S (QI (fun r G1 S1 => G1 = G ∧ Q r S1)) := MT.ofJ (by decide) (fun b => [(0, .ref (b + v0)), (1, .int v1), (2, .int v2)]) (fun b => rfl) (fun b => Nat.le_of_ble_eq_true rfl) (fun l b D cy p e s m below meth c C hE hn => j_X4_explains C hE t_v0 h)
theorem hd_X4_explains : yX4_explains.cls ≠ "java/lang/invoke/MethodHandle" ∧ yX4_explains.cls ≠ "java/lang/invoke/VarHandle" ∧ (parseMethodDescriptor yX4_explains.desc).map (fun d => d.parameters.length) = some 3 := by decide +kernel
def f_X4_mixedAt_20_n (G : Gm) (k5 : Int32 → Int32 → St → Prop) (v1 : Nat) (v2 : Int32) (v4 : Int32) (Q : Int32 → St → Prop) : Nat → Int32 → Int32 → St → Prop
  | 0, _, _, _ => False
  | n + 1, v3, v5, S => (if (S.1 v1 0) ≤ v5 then k5 v3 (v4 + 1) S else f_X4_explains G v1 v4 v5 (fun r3 S2 => (if r3 = 0 then (f_X4_mixedAt_20_n G k5 v1 v2 v4 Q n) v3 (v5 + 1) S2 else (if v3 = v2 then Q ((v4 * 10) + v5) S2 else (f_X4_mixedAt_20_n G k5 v1 v2 v4 Q n) (v3 + 1) (v5 + 1) S2))) S)
def f_X4_mixedAt_20 (G : Gm) (k5 : Int32 → Int32 → St → Prop) (v1 : Nat) (v2 : Int32) (v4 : Int32) (Q : Int32 → St → Prop) (v3 : Int32) (v5 : Int32) (S : St) : Prop := ∃ n, f_X4_mixedAt_20_n G k5 v1 v2 v4 Q n v3 v5 S
def f_X4_mixedAt_5_n (G : Gm) (v1 : Nat) (v2 : Int32) (Q : Int32 → St → Prop) : Nat → Int32 → Int32 → St → Prop
  | 0, _, _, _ => False
  | n + 1, v3, v4, S => (if (S.1 v1 0) ≤ v4 then (if v2 = (-1) then Q v3 S else Q (-1) S) else (∀ x3 : Int32, x3 = v4 + 1 → f_X4_mixedAt_20 G (f_X4_mixedAt_5_n G v1 v2 Q n) v1 v2 v4 Q v3 x3 S))
def f_X4_mixedAt_5 (G : Gm) (v1 : Nat) (v2 : Int32) (Q : Int32 → St → Prop) (v3 : Int32) (v4 : Int32) (S : St) : Prop := ∃ n, f_X4_mixedAt_5_n G v1 v2 Q n v3 v4 S
def f_X4_mixedAt (G : Gm) (v0 : Nat) (v1 : Nat) (v2 : Int32) (Q : Int32 → St → Prop) (S : St) : Prop :=
  f_X4_mixedAt_5 G v1 v2 Q 0 0 S
abbrev rm_X4_mixedAt : Room := { frames := 4, cells := 0, slots := 0, locals := 93 }
set_option maxHeartbeats 4000000 in
set_option maxRecDepth 100000 in
theorem j_X4_mixedAt_20_n {p : Program} {l : Launch} {e : Env} {s : State} {m : MethodId} {args : Array Value} {below : List Frame} {meth : Method} {c : Code} {b : Nat} {D : va_G} {cy : Nat → ClassId} {G : Gm} {k5 : Int32 → Int32 → St → Prop} {v1 : Nat} {v2 : Int32} {v4 : Int32} {Q : Int32 → St → Prop} (C : CX p s m args meth c b D cy cX4_mixedAt RX4 6 (some .int)) (hE : s.heap.size + 0 ≤ b + G.2.2) (t_v1 : ok G 4 v1) (hk5 : ∀ v3' v4' S, k5 v3' v4' S → J p l e rm_X4_mixedAt s m args below meth c b D cy 6 (zI b D cy below args s G Q) 0 0 G S 5 [(1, .ref (b + v1)), (2, .int v2), (3, .int (v3')), (4, .int (v4'))] []) : ∀ n (v3 : Int32) (v5 : Int32) S, f_X4_mixedAt_20_n G k5 v1 v2 v4 Q n v3 v5 S → J p l e rm_X4_mixedAt s m args below meth c b D cy 6 (zI b D cy below args s G Q) 0 0 G S 20 [(1, .ref (b + v1)), (2, .int v2), (3, .int v3), (4, .int v4), (5, .int v5)] [] := by
  intro n
  induction n with
  | zero => intro v3 v5 S h; exact h.elim
  | succ n ih =>
    intro v3 v5 S h
    unfold f_X4_mixedAt_20_n at h
    refine jB C [(.iload 5, 2, 0), (.aload_n 1, 1, 0)] 23 [(1, .ref (b + v1)), (2, .int v2), (3, .int v3), (4, .int v4), (5, .int v5)] [.ref (b + v1), .int v5] (by decide +kernel) rfl rfl ?_
    refine jGetIN C 26 (by decide +kernel : decode cX4_mixedAt 23 = .ok (.getfield 105, 3)) rfl t_v1 kX5 0 (by decide) rfl rfl (by decide) wn_39 ?_
    refine jIcmp_ge C 29 63 (by decide +kernel : decode cX4_mixedAt 26 = .ok (.if_icmp .ge 37, 3)) rfl rfl (fun c1 => ?_) (fun c1 => ?_)
    · have h := it1 h c1
      refine jB C [(.iinc 4 1, 3, 1)] 66 [(4, .int (v4 + 1)), (1, .ref (b + v1)), (2, .int v2), (3, .int v3), (5, .int v5)] [] (by decide +kernel) rfl rfl ?_
      refine jGoto C 5 (by decide +kernel : decode cX4_mixedAt 66 = .ok (.goto (-61), 3)) rfl ?_
      refine jSub [1, 2, 3, 0] rfl ?_
      exact hk5 v3 (v4 + 1) S h
    · have h := it2 h c1
      refine jB C [(.aload_n 1, 1, 0), (.iload 4, 2, 0), (.iload 5, 2, 0)] 34 [(1, .ref (b + v1)), (2, .int v2), (3, .int v3), (4, .int v4), (5, .int v5)] [.int v5, .int v4, .ref (b + v1)] (by decide +kernel) rfl rfl ?_
      refine jcS_I C 37 (rest := []) (ok_X4_explains t_v1 h) (by decide +kernel : decode cX4_mixedAt 34 = .ok (.invokestatic 116, 3)) rfl wd_984 wd_985 wd_8 wd_986 ⟨rfl, rfl⟩ hd_X4_explains ⟨Nat.le_of_ble_eq_true rfl, Nat.le_of_ble_eq_true rfl⟩ rfl rfl (Nat.le_of_ble_eq_true rfl) ⟨Nat.zero_le _, Nat.zero_le _⟩ (fun r3 S2 h => ?_)
      refine jIf_eq C 40 57 (by decide +kernel : decode cX4_mixedAt 37 = .ok (.ifCond .eq 20, 3)) rfl rfl (fun c4 => ?_) (fun c4 => ?_)
      · have h := it1 h c4
        refine jB C [(.iinc 5 1, 3, 1)] 60 [(5, .int (v5 + 1)), (1, .ref (b + v1)), (2, .int v2), (3, .int v3), (4, .int v4)] [] (by decide +kernel) rfl rfl ?_
        refine jGoto C 20 (by decide +kernel : decode cX4_mixedAt 60 = .ok (.goto (-40), 3)) rfl ?_
        refine jSub [1, 2, 3, 4, 0] rfl ?_
        exact ih v3 (v5 + 1) S2 h
      · have h := it2 h c4
        refine jB C [(.iload_n 3, 1, 0), (.iload_n 2, 1, 0)] 42 [(1, .ref (b + v1)), (2, .int v2), (3, .int v3), (4, .int v4), (5, .int v5)] [.int v2, .int v3] (by decide +kernel) rfl rfl ?_
        refine jIcmp_ne C 45 54 (by decide +kernel : decode cX4_mixedAt 42 = .ok (.if_icmp .ne 12, 3)) rfl rfl (fun c5 => ?_) (fun c5 => ?_)
        · have h := it2 h c5
          refine jB C [(.iinc 3 1, 3, 1), (.iinc 5 1, 3, 1)] 60 [(5, .int (v5 + 1)), (3, .int (v3 + 1)), (1, .ref (b + v1)), (2, .int v2), (4, .int v4)] [] (by decide +kernel) rfl rfl ?_
          refine jGoto C 20 (by decide +kernel : decode cX4_mixedAt 60 = .ok (.goto (-40), 3)) rfl ?_
          refine jSub [2, 3, 1, 4, 0] rfl ?_
          exact ih (v3 + 1) (v5 + 1) S2 h
        · have h := it1 h c5
          refine jB C [(.iload 4, 2, 0), (.bipush 10, 2, 10), (.imul, 1, 0), (.iload 5, 2, 0), (.iadd, 1, 0)] 53 [(1, .ref (b + v1)), (2, .int v2), (3, .int v3), (4, .int v4), (5, .int v5)] [.int ((v4 * 10) + v5)] (by decide +kernel) rfl rfl ?_
          exact jRetI C (by decide +kernel : decode cX4_mixedAt 53 = .ok (.ireturn, 1)) (Nat.le_refl _) (Nat.le_refl _) ⟨rfl, h⟩
theorem j_X4_mixedAt_20 {p : Program} {l : Launch} {e : Env} {s : State} {m : MethodId} {args : Array Value} {below : List Frame} {meth : Method} {c : Code} {b : Nat} {D : va_G} {cy : Nat → ClassId} {G : Gm} {k5 : Int32 → Int32 → St → Prop} {v1 : Nat} {v2 : Int32} {v4 : Int32} {v3 : Int32} {v5 : Int32} {S : St} {Q : Int32 → St → Prop} (C : CX p s m args meth c b D cy cX4_mixedAt RX4 6 (some .int)) (hE : s.heap.size + 0 ≤ b + G.2.2) (t_v1 : ok G 4 v1) (hk5 : ∀ v3' v4' S, k5 v3' v4' S → J p l e rm_X4_mixedAt s m args below meth c b D cy 6 (zI b D cy below args s G Q) 0 0 G S 5 [(1, .ref (b + v1)), (2, .int v2), (3, .int (v3')), (4, .int (v4'))] []) (h : f_X4_mixedAt_20 G k5 v1 v2 v4 Q v3 v5 S) : J p l e rm_X4_mixedAt s m args below meth c b D cy 6 (zI b D cy below args s G Q) 0 0 G S 20 [(1, .ref (b + v1)), (2, .int v2), (3, .int v3), (4, .int v4), (5, .int v5)] [] := by
  obtain ⟨n, h⟩ := h
  exact j_X4_mixedAt_20_n C hE t_v1 hk5 n v3 v5 S h
set_option maxHeartbeats 4000000 in
set_option maxRecDepth 100000 in
theorem j_X4_mixedAt_5_n {p : Program} {l : Launch} {e : Env} {s : State} {m : MethodId} {args : Array Value} {below : List Frame} {meth : Method} {c : Code} {b : Nat} {D : va_G} {cy : Nat → ClassId} {G : Gm} {v1 : Nat} {v2 : Int32} {Q : Int32 → St → Prop} (C : CX p s m args meth c b D cy cX4_mixedAt RX4 6 (some .int)) (hE : s.heap.size + 0 ≤ b + G.2.2) (t_v1 : ok G 4 v1) : ∀ n (v3 : Int32) (v4 : Int32) S, f_X4_mixedAt_5_n G v1 v2 Q n v3 v4 S → J p l e rm_X4_mixedAt s m args below meth c b D cy 6 (zI b D cy below args s G Q) 0 0 G S 5 [(1, .ref (b + v1)), (2, .int v2), (3, .int v3), (4, .int v4)] [] := by
  intro n
  induction n with
  | zero => intro v3 v4 S h; exact h.elim
  | succ n ih =>
    intro v3 v4 S h
    unfold f_X4_mixedAt_5_n at h
    refine jB C [(.iload 4, 2, 0), (.aload_n 1, 1, 0)] 8 [(1, .ref (b + v1)), (2, .int v2), (3, .int v3), (4, .int v4)] [.ref (b + v1), .int v4] (by decide +kernel) rfl rfl ?_
    refine jGetIN C 11 (by decide +kernel : decode cX4_mixedAt 8 = .ok (.getfield 105, 3)) rfl t_v1 kX5 0 (by decide) rfl rfl (by decide) wn_39 ?_
    refine jIcmp_ge C 14 69 (by decide +kernel : decode cX4_mixedAt 11 = .ok (.if_icmp .ge 58, 3)) rfl rfl (fun c1 => ?_) (fun c1 => ?_)
    · have h := it1 h c1
      refine jB C [(.iload_n 2, 1, 0), (.iconst (-1), 1, (-1))] 71 [(1, .ref (b + v1)), (2, .int v2), (3, .int v3), (4, .int v4)] [.int (-1), .int v2] (by decide +kernel) rfl rfl ?_
      refine jIcmp_ne C 74 78 (by decide +kernel : decode cX4_mixedAt 71 = .ok (.if_icmp .ne 7, 3)) rfl rfl (fun c2 => ?_) (fun c2 => ?_)
      · have h := it2 h c2
        refine jB C [(.iconst (-1), 1, (-1))] 79 [(1, .ref (b + v1)), (2, .int v2), (3, .int v3), (4, .int v4)] [.int (-1)] (by decide +kernel) rfl rfl ?_
        exact jRetI C (by decide +kernel : decode cX4_mixedAt 79 = .ok (.ireturn, 1)) (Nat.le_refl _) (Nat.le_refl _) ⟨rfl, h⟩
      · have h := it1 h c2
        refine jB C [(.iload_n 3, 1, 0)] 75 [(1, .ref (b + v1)), (2, .int v2), (3, .int v3), (4, .int v4)] [.int v3] (by decide +kernel) rfl rfl ?_
        refine jGoto C 79 (by decide +kernel : decode cX4_mixedAt 75 = .ok (.goto 4, 3)) rfl ?_
        exact jRetI C (by decide +kernel : decode cX4_mixedAt 79 = .ok (.ireturn, 1)) (Nat.le_refl _) (Nat.le_refl _) ⟨rfl, h⟩
    · have h := it2 h c1
      refine jB C [(.iload 4, 2, 0), (.iconst 1, 1, 1), (.iadd, 1, 0)] 18 [(1, .ref (b + v1)), (2, .int v2), (3, .int v3), (4, .int v4)] [.int (v4 + 1)] (by decide +kernel) rfl rfl ?_
      refine jTopI (fun x3 e_x3 => ?_)
      have h := h x3 e_x3
      refine jB C [(.istore 5, 2, 0)] 20 [(5, .int x3), (1, .ref (b + v1)), (2, .int v2), (3, .int v3), (4, .int v4)] [] (by decide +kernel) rfl rfl ?_
      refine jSub [1, 2, 3, 4, 0] rfl ?_
      exact j_X4_mixedAt_20 C hE t_v1 ih h
theorem j_X4_mixedAt_5 {p : Program} {l : Launch} {e : Env} {s : State} {m : MethodId} {args : Array Value} {below : List Frame} {meth : Method} {c : Code} {b : Nat} {D : va_G} {cy : Nat → ClassId} {G : Gm} {v1 : Nat} {v2 : Int32} {v3 : Int32} {v4 : Int32} {S : St} {Q : Int32 → St → Prop} (C : CX p s m args meth c b D cy cX4_mixedAt RX4 6 (some .int)) (hE : s.heap.size + 0 ≤ b + G.2.2) (t_v1 : ok G 4 v1) (h : f_X4_mixedAt_5 G v1 v2 Q v3 v4 S) : J p l e rm_X4_mixedAt s m args below meth c b D cy 6 (zI b D cy below args s G Q) 0 0 G S 5 [(1, .ref (b + v1)), (2, .int v2), (3, .int v3), (4, .int v4)] [] := by
  obtain ⟨n, h⟩ := h
  exact j_X4_mixedAt_5_n C hE t_v1 n v3 v4 S h
set_option maxHeartbeats 4000000 in
set_option maxRecDepth 100000 in
theorem j_X4_mixedAt {p : Program} {l : Launch} {e : Env} {s : State} {m : MethodId} {args : Array Value} {below : List Frame} {meth : Method} {c : Code} {b : Nat} {D : va_G} {cy : Nat → ClassId} {G : Gm} {v0 : Nat} {v1 : Nat} {v2 : Int32} {S : St} {Q : Int32 → St → Prop} (C : CX p s m args meth c b D cy cX4_mixedAt RX4 6 (some .int)) (hE : s.heap.size + 0 ≤ b + G.2.2) (t_v0 : ok G 3 v0) (t_v1 : ok G 4 v1) (h : f_X4_mixedAt G v0 v1 v2 Q S) : J p l e rm_X4_mixedAt s m args below meth c b D cy 6 (zI b D cy below args s G Q) 0 0 G S 0 [(0, .ref (b + v0)), (1, .ref (b + v1)), (2, .int v2)] [] := by
  unfold f_X4_mixedAt at h
  refine jB C [(.iconst 0, 1, 0), (.istore_n 3, 1, 0), (.iconst 0, 1, 0), (.istore 4, 2, 0)] 5 [(4, .int 0), (3, .int 0), (0, .ref (b + v0)), (1, .ref (b + v1)), (2, .int v2)] [] (by decide +kernel) rfl rfl ?_
  refine jSub [3, 4, 1, 0] rfl ?_
  exact j_X4_mixedAt_5 C hE t_v1 h
theorem ok_X4_mixedAt {G : Gm} {v0 : Nat} {v1 : Nat} {v2 : Int32} {S : St} {Q : Int32 → St → Prop} (t_v0 : ok G 3 v0) (t_v1 : ok G 4 v1) (h : f_X4_mixedAt G v0 v1 v2 Q S) : MT yX4_mixedAt cX4_mixedAt 6 (some .int) rm_X4_mixedAt 0 0 (fun b => [.ref (b + v0), .ref (b + v1), .int v2]) G S (QI (fun r G1 S1 => G1 = G ∧ Q r S1)) := MT.ofJ (by decide) (fun b => [(0, .ref (b + v0)), (1, .ref (b + v1)), (2, .int v2)]) (fun b => rfl) (fun b => Nat.le_of_ble_eq_true rfl) (fun l b D cy p e s m below meth c C hE hn => j_X4_mixedAt C hE t_v0 t_v1 h)
theorem hd_X4_mixedAt : yX4_mixedAt.cls ≠ "java/lang/invoke/MethodHandle" ∧ yX4_mixedAt.cls ≠ "java/lang/invoke/VarHandle" ∧ (parseMethodDescriptor yX4_mixedAt.desc).map (fun d => d.parameters.length) = some 2 := by decide +kernel
def f_X10_mixed (G : Gm) (v0 : Nat) (v1 : Int32) (Q : Int32 → St → Prop) (S : St) : Prop :=
  (if v1 < (-1) then Q (-1) S else (∃ a2, S.2.2 v0 7 = some a2 ∧ (∃ a3, S.2.2 v0 0 = some a3 ∧ f_X4_mixedAt G a2 a3 v1 (fun r5 S4 => Q r5 S4) S)))
abbrev rm_X10_mixed : Room := { frames := 5, cells := 0, slots := 0, locals := 118 }
set_option maxHeartbeats 4000000 in
set_option maxRecDepth 100000 in
theorem j_X10_mixed {p : Program} {l : Launch} {e : Env} {s : State} {m : MethodId} {args : Array Value} {below : List Frame} {meth : Method} {c : Code} {b : Nat} {D : va_G} {cy : Nat → ClassId} {G : Gm} {v0 : Nat} {v1 : Int32} {S : St} {Q : Int32 → St → Prop} (C : CX p s m args meth c b D cy cX10_mixed RX10 2 (some .int)) (hE : s.heap.size + 0 ≤ b + G.2.2) (t_v0 : ok G 9 v0) (h : f_X10_mixed G v0 v1 Q S) : J p l e rm_X10_mixed s m args below meth c b D cy 2 (zI b D cy below args s G Q) 0 0 G S 0 [(0, .ref (b + v0)), (1, .int v1)] [] := by
  unfold f_X10_mixed at h
  refine jB C [(.iload_n 1, 1, 0), (.iconst (-1), 1, (-1))] 2 [(0, .ref (b + v0)), (1, .int v1)] [.int (-1), .int v1] (by decide +kernel) rfl rfl ?_
  refine jIcmp_lt C 5 20 (by decide +kernel : decode cX10_mixed 2 = .ok (.if_icmp .lt 18, 3)) rfl rfl (fun c1 => ?_) (fun c1 => ?_)
  · have h := it1 h c1
    refine jB C [(.iconst (-1), 1, (-1))] 21 [(0, .ref (b + v0)), (1, .int v1)] [.int (-1)] (by decide +kernel) rfl rfl ?_
    exact jRetI C (by decide +kernel : decode cX10_mixed 21 = .ok (.ireturn, 1)) (Nat.le_refl _) (Nat.le_refl _) ⟨rfl, h⟩
  · have h := it2 h c1
    refine jB C [(.aload_n 0, 1, 0)] 6 [(0, .ref (b + v0)), (1, .int v1)] [.ref (b + v0)] (by decide +kernel) rfl rfl ?_
    obtain ⟨a2, e_a2, h⟩ := h
    refine jGetR C 9 (by decide +kernel : decode cX10_mixed 6 = .ok (.getfield 56, 3)) rfl t_v0 kX10 7 (by decide) rfl rfl (by decide) wd_318 e_a2 rfl (fun t_a2 => ?_)
    refine jB C [(.aload_n 0, 1, 0)] 10 [(0, .ref (b + v0)), (1, .int v1)] [.ref (b + v0), .ref (b + a2)] (by decide +kernel) rfl rfl ?_
    obtain ⟨a3, e_a3, h⟩ := h
    refine jGetR C 13 (by decide +kernel : decode cX10_mixed 10 = .ok (.getfield 14, 3)) rfl t_v0 kX10 0 (by decide) rfl rfl (by decide) wd_311 e_a3 rfl (fun t_a3 => ?_)
    refine jB C [(.iload_n 1, 1, 0)] 14 [(0, .ref (b + v0)), (1, .int v1)] [.int v1, .ref (b + a3), .ref (b + a2)] (by decide +kernel) rfl rfl ?_
    refine jcVN_I C 17 (rest := []) (ok_X4_mixedAt t_a2 t_a3 h) (by decide +kernel : decode cX10_mixed 14 = .ok (.invokevirtual 270, 3)) rfl wn_980 wd_982 wp_85 wd_8 wd_983 ⟨rfl, rfl⟩ hd_X4_mixedAt ⟨Nat.le_of_ble_eq_true rfl, Nat.le_of_ble_eq_true rfl⟩ t_a2 kX4 (by decide) rfl rfl rfl (Nat.le_of_ble_eq_true rfl) ⟨Nat.zero_le _, Nat.zero_le _⟩ (fun r5 S4 h => ?_)
    refine jGoto C 21 (by decide +kernel : decode cX10_mixed 17 = .ok (.goto 4, 3)) rfl ?_
    exact jRetI C (by decide +kernel : decode cX10_mixed 21 = .ok (.ireturn, 1)) (Nat.le_refl _) (Nat.le_refl _) ⟨rfl, h⟩
theorem ok_X10_mixed {G : Gm} {v0 : Nat} {v1 : Int32} {S : St} {Q : Int32 → St → Prop} (t_v0 : ok G 9 v0) (h : f_X10_mixed G v0 v1 Q S) : MT yX10_mixed cX10_mixed 2 (some .int) rm_X10_mixed 0 0 (fun b => [.ref (b + v0), .int v1]) G S (QI (fun r G1 S1 => G1 = G ∧ Q r S1)) := MT.ofJ (by decide) (fun b => [(0, .ref (b + v0)), (1, .int v1)]) (fun b => rfl) (fun b => Nat.le_of_ble_eq_true rfl) (fun l b D cy p e s m below meth c C hE hn => j_X10_mixed C hE t_v0 h)
theorem hd_X10_mixed : yX10_mixed.cls ≠ "java/lang/invoke/MethodHandle" ∧ yX10_mixed.cls ≠ "java/lang/invoke/VarHandle" ∧ (parseMethodDescriptor yX10_mixed.desc).map (fun d => d.parameters.length) = some 1 := by decide +kernel
def f_X1_drawBehind (G : Gm) (v0 : Int32) (Q : Int32 → St → Prop) (S : St) : Prop :=
  Q ((((v0.toInt64 * 1103) + 12345) - ((v0.toInt64 * 1103) + 12345) / 1000003 * 1000003).toInt32) S
abbrev rm_X1_drawBehind : Room := { frames := 0, cells := 0, slots := 0, locals := 0 }
set_option maxHeartbeats 4000000 in
set_option maxRecDepth 100000 in
theorem j_X1_drawBehind {p : Program} {l : Launch} {e : Env} {s : State} {m : MethodId} {args : Array Value} {below : List Frame} {meth : Method} {c : Code} {b : Nat} {D : va_G} {cy : Nat → ClassId} {G : Gm} {v0 : Int32} {S : St} {Q : Int32 → St → Prop} (C : CX p s m args meth c b D cy cX1_drawBehind RX1 1 (some .int)) (hE : s.heap.size + 0 ≤ b + G.2.2) (h : f_X1_drawBehind G v0 Q S) : J p l e rm_X1_drawBehind s m args below meth c b D cy 1 (zI b D cy below args s G Q) 0 0 G S 0 [(0, .int v0)] [] := by
  unfold f_X1_drawBehind at h
  refine jB C [(.iload_n 0, 1, 0), (.i2l, 1, 0)] 2 [(0, .int v0)] [.long v0.toInt64] (by decide +kernel) rfl rfl ?_
  refine jLdc2 C 5 (by decide +kernel : decode cX1_drawBehind 2 = .ok (.ldc2_w 106, 3)) rfl wd_1097 ?_
  refine jB C [(.lmul, 1, 0)] 6 [(0, .int v0)] [.long (v0.toInt64 * 1103)] (by decide +kernel) rfl rfl ?_
  refine jLdc2 C 9 (by decide +kernel : decode cX1_drawBehind 6 = .ok (.ldc2_w 108, 3)) rfl wd_1098 ?_
  refine jB C [(.ladd, 1, 0)] 10 [(0, .int v0)] [.long ((v0.toInt64 * 1103) + 12345)] (by decide +kernel) rfl rfl ?_
  refine jLdc2 C 13 (by decide +kernel : decode cX1_drawBehind 10 = .ok (.ldc2_w 110, 3)) rfl wd_1099 ?_
  refine jLrem C 14 (by decide +kernel : decode cX1_drawBehind 13 = .ok (.lrem, 1)) rfl (by decide) ?_
  refine jB C [(.l2i, 1, 0)] 15 [(0, .int v0)] [.int ((((v0.toInt64 * 1103) + 12345) - ((v0.toInt64 * 1103) + 12345) / 1000003 * 1000003).toInt32)] (by decide +kernel) rfl rfl ?_
  exact jRetI C (by decide +kernel : decode cX1_drawBehind 15 = .ok (.ireturn, 1)) (Nat.le_refl _) (Nat.le_refl _) ⟨rfl, h⟩
theorem ok_X1_drawBehind {G : Gm} {v0 : Int32} {S : St} {Q : Int32 → St → Prop} (h : f_X1_drawBehind G v0 Q S) : MT yX1_drawBehind cX1_drawBehind 1 (some .int) rm_X1_drawBehind 0 0 (fun b => [.int v0]) G S (QI (fun r G1 S1 => G1 = G ∧ Q r S1)) := MT.ofJ (by decide) (fun b => [(0, .int v0)]) (fun b => rfl) (fun b => Nat.le_of_ble_eq_true rfl) (fun l b D cy p e s m below meth c C hE hn => j_X1_drawBehind C hE h)
theorem hd_X1_drawBehind : yX1_drawBehind.cls ≠ "java/lang/invoke/MethodHandle" ∧ yX1_drawBehind.cls ≠ "java/lang/invoke/VarHandle" ∧ (parseMethodDescriptor yX1_drawBehind.desc).map (fun d => d.parameters.length) = some 1 := by decide +kernel
def f_X1_drawDays_145 (G : Gm) (k22 : Int32 → Int32 → Int32 → St → Prop) (v0 : Nat) (v1 : Nat) (v3 : Int32) (v4 : Int32) (v5 : Int32) (v6 : Int32) (v7 : Int32) (Q : Int32 → St → Prop) (S : St) : Prop :=
  f_X1_nextDay G v0 v1 (fun r2 S1 => k22 v5 v6 (v7 + 1) S1) S
def f_X1_drawDays_22_n (G : Gm) (v0 : Nat) (v1 : Nat) (v3 : Int32) (v4 : Int32) (Q : Int32 → St → Prop) : Nat → Int32 → Int32 → Int32 → St → Prop
  | 0, _, _, _, _ => False
  | n + 1, v5, v6, v7, S => (if v3 ≤ v7 then Q v5 S else f_X5_termOf G v1 0 (fun r3 S2 => (if 999 ≤ r3 then Q v5 S2 else f_X1_drawBehind G v6 (fun r6 S5 => (¬ v4 = 0 ∧ (∀ x7 : Int32, x7 = r6 - r6 / v4 * v4 → f_X1_drawBehind G r6 (fun r9 S8 => (∀ x10 : Int32, x10 = r9 - r9 / 4 * 4 → f_X1_drawBehind G r9 (fun r12 S11 => (∀ x13 : Int32, x13 = r12 - r12 / 3 * 3 → (if x13 = 1 then (∃ a15, S11.2.2 v0 0 = some a15 ∧ f_X2_bars G a15 v1 x7 (fun r17 S16 => (if r17 = 0 then (∃ a19, S16.2.2 v0 0 = some a19 ∧ f_X5_lawInForce G v1 (fun r21 S20 => (∀ z, r21 = some z → ok G 7 z) ∧ f_X2_glassBy G a19 v1 r21 x7 (fun r24 S23 => f_X5_setGlass G v1 x7 r24 (fun S25 => f_X1_drawDays_145 G (f_X1_drawDays_22_n G v0 v1 v3 v4 Q n) v0 v1 v3 v4 (v5 + 1) r12 v7 Q S25) S23) S20) S16) else f_X1_drawDays_145 G (f_X1_drawDays_22_n G v0 v1 v3 v4 Q n) v0 v1 v3 v4 v5 r12 v7 Q S16)) S11) else f_X5_sinOf G v1 x7 x10 (fun r27 S26 => f_X5_setSin G v1 x7 x10 ((r27 + 1) - x13) (fun S28 => f_X1_drawDays_145 G (f_X1_drawDays_22_n G v0 v1 v3 v4 Q n) v0 v1 v3 v4 v5 r12 v7 Q S28) S26) S11))) S8)) S5))) S2)) S)
def f_X1_drawDays_22 (G : Gm) (v0 : Nat) (v1 : Nat) (v3 : Int32) (v4 : Int32) (Q : Int32 → St → Prop) (v5 : Int32) (v6 : Int32) (v7 : Int32) (S : St) : Prop := ∃ n, f_X1_drawDays_22_n G v0 v1 v3 v4 Q n v5 v6 v7 S
def f_X1_drawDays (G : Gm) (v0 : Nat) (v1 : Nat) (v2 : Int32) (v3 : Int32) (Q : Int32 → St → Prop) (S : St) : Prop :=
  (∀ x1 : Int32, x1 = S.1 v1 0 → (if 0 < x1 then f_X1_drawDays_22 G v0 v1 v3 x1 Q 0 v2 0 S else Q 0 S))
abbrev rm_X1_drawDays : Room := { frames := 5, cells := 0, slots := 0, locals := 133 }
set_option maxHeartbeats 4000000 in
set_option maxRecDepth 100000 in
theorem j_X1_drawDays_145 {p : Program} {l : Launch} {e : Env} {s : State} {m : MethodId} {args : Array Value} {below : List Frame} {meth : Method} {c : Code} {b : Nat} {D : va_G} {cy : Nat → ClassId} {G : Gm} {k22 : Int32 → Int32 → Int32 → St → Prop} {v0 : Nat} {v1 : Nat} {v3 : Int32} {v4 : Int32} {v5 : Int32} {v6 : Int32} {v7 : Int32} {S : St} {Q : Int32 → St → Prop} (C : CX p s m args meth c b D cy cX1_drawDays RX1 11 (some .int)) (hE : s.heap.size + 0 ≤ b + G.2.2) (t_v0 : ok G 1 v0) (t_v1 : ok G 4 v1) (hk22 : ∀ v5' v6' v7' S, k22 v5' v6' v7' S → J p l e rm_X1_drawDays s m args below meth c b D cy 11 (zI b D cy below args s G Q) 0 0 G S 22 [(0, .ref (b + v0)), (1, .ref (b + v1)), (3, .int v3), (4, .int v4), (5, .int (v5')), (6, .int (v6')), (7, .int (v7'))] []) (h : f_X1_drawDays_145 G k22 v0 v1 v3 v4 v5 v6 v7 Q S) : J p l e rm_X1_drawDays s m args below meth c b D cy 11 (zI b D cy below args s G Q) 0 0 G S 145 [(0, .ref (b + v0)), (1, .ref (b + v1)), (3, .int v3), (4, .int v4), (5, .int v5), (6, .int v6), (7, .int v7)] [] := by
  unfold f_X1_drawDays_145 at h
  refine jB C [(.aload_n 0, 1, 0), (.aload_n 1, 1, 0)] 147 [(0, .ref (b + v0)), (1, .ref (b + v1)), (3, .int v3), (4, .int v4), (5, .int v5), (6, .int v6), (7, .int v7)] [.ref (b + v1), .ref (b + v0)] (by decide +kernel) rfl rfl ?_
  refine jcV_I C 150 (rest := []) (ok_X1_nextDay t_v0 t_v1 h) (by decide +kernel : decode cX1_drawDays 147 = .ok (.invokevirtual 71, 3)) rfl wd_856 wd_858 wp_73 wd_6 wd_859 ⟨rfl, rfl⟩ hd_X1_nextDay ⟨Nat.le_of_ble_eq_true rfl, Nat.le_of_ble_eq_true rfl⟩ t_v0 kX1 (by decide) rfl rfl rfl (Nat.le_of_ble_eq_true rfl) ⟨Nat.zero_le _, Nat.zero_le _⟩ (fun r2 S1 h => ?_)
  refine jB C [(.pop, 1, 0), (.iinc 7 1, 3, 1)] 154 [(7, .int (v7 + 1)), (0, .ref (b + v0)), (1, .ref (b + v1)), (3, .int v3), (4, .int v4), (5, .int v5), (6, .int v6)] [] (by decide +kernel) rfl rfl ?_
  refine jGoto C 22 (by decide +kernel : decode cX1_drawDays 154 = .ok (.goto (-132), 3)) rfl ?_
  refine jSub [1, 2, 3, 4, 5, 6, 0] rfl ?_
  exact hk22 v5 v6 (v7 + 1) S1 h
set_option maxHeartbeats 4000000 in
set_option maxRecDepth 100000 in
theorem j_X1_drawDays_22_n {p : Program} {l : Launch} {e : Env} {s : State} {m : MethodId} {args : Array Value} {below : List Frame} {meth : Method} {c : Code} {b : Nat} {D : va_G} {cy : Nat → ClassId} {G : Gm} {v0 : Nat} {v1 : Nat} {v3 : Int32} {v4 : Int32} {Q : Int32 → St → Prop} (C : CX p s m args meth c b D cy cX1_drawDays RX1 11 (some .int)) (hE : s.heap.size + 0 ≤ b + G.2.2) (t_v0 : ok G 1 v0) (t_v1 : ok G 4 v1) : ∀ n (v5 : Int32) (v6 : Int32) (v7 : Int32) S, f_X1_drawDays_22_n G v0 v1 v3 v4 Q n v5 v6 v7 S → J p l e rm_X1_drawDays s m args below meth c b D cy 11 (zI b D cy below args s G Q) 0 0 G S 22 [(0, .ref (b + v0)), (1, .ref (b + v1)), (3, .int v3), (4, .int v4), (5, .int v5), (6, .int v6), (7, .int v7)] [] := by
  intro n
  induction n with
  | zero => intro v5 v6 v7 S h; exact h.elim
  | succ n ih =>
    intro v5 v6 v7 S h
    unfold f_X1_drawDays_22_n at h
    refine jB C [(.iload 7, 2, 0), (.iload_n 3, 1, 0)] 25 [(0, .ref (b + v0)), (1, .ref (b + v1)), (3, .int v3), (4, .int v4), (5, .int v5), (6, .int v6), (7, .int v7)] [.int v3, .int v7] (by decide +kernel) rfl rfl ?_
    refine jIcmp_ge C 28 157 (by decide +kernel : decode cX1_drawDays 25 = .ok (.if_icmp .ge 132, 3)) rfl rfl (fun c1 => ?_) (fun c1 => ?_)
    · have h := it1 h c1
      refine jB C [(.iload 5, 2, 0)] 159 [(0, .ref (b + v0)), (1, .ref (b + v1)), (3, .int v3), (4, .int v4), (5, .int v5), (6, .int v6), (7, .int v7)] [.int v5] (by decide +kernel) rfl rfl ?_
      exact jRetI C (by decide +kernel : decode cX1_drawDays 159 = .ok (.ireturn, 1)) (Nat.le_refl _) (Nat.le_refl _) ⟨rfl, h⟩
    · have h := it2 h c1
      refine jB C [(.aload_n 1, 1, 0), (.iconst 0, 1, 0)] 30 [(0, .ref (b + v0)), (1, .ref (b + v1)), (3, .int v3), (4, .int v4), (5, .int v5), (6, .int v6), (7, .int v7)] [.int 0, .ref (b + v1)] (by decide +kernel) rfl rfl ?_
      refine jcVN_I C 33 (rest := []) (ok_X5_termOf t_v1 h) (by decide +kernel : decode cX1_drawDays 30 = .ok (.invokevirtual 87, 3)) rfl wn_831 wd_418 wp_11 wd_2 wd_419 ⟨rfl, rfl⟩ hd_X5_termOf ⟨Nat.le_of_ble_eq_true rfl, Nat.le_of_ble_eq_true rfl⟩ t_v1 kX5 (by decide) rfl rfl rfl (Nat.le_of_ble_eq_true rfl) ⟨Nat.zero_le _, Nat.zero_le _⟩ (fun r3 S2 h => ?_)
      refine jB C [(.sipush 999, 3, 999)] 36 [(0, .ref (b + v0)), (1, .ref (b + v1)), (3, .int v3), (4, .int v4), (5, .int v5), (6, .int v6), (7, .int v7)] [.int 999, .int r3] (by decide +kernel) rfl rfl ?_
      refine jIcmp_ge C 39 157 (by decide +kernel : decode cX1_drawDays 36 = .ok (.if_icmp .ge 121, 3)) rfl rfl (fun c4 => ?_) (fun c4 => ?_)
      · have h := it1 h c4
        refine jB C [(.iload 5, 2, 0)] 159 [(0, .ref (b + v0)), (1, .ref (b + v1)), (3, .int v3), (4, .int v4), (5, .int v5), (6, .int v6), (7, .int v7)] [.int v5] (by decide +kernel) rfl rfl ?_
        exact jRetI C (by decide +kernel : decode cX1_drawDays 159 = .ok (.ireturn, 1)) (Nat.le_refl _) (Nat.le_refl _) ⟨rfl, h⟩
      · have h := it2 h c4
        refine jB C [(.iload 6, 2, 0)] 41 [(0, .ref (b + v0)), (1, .ref (b + v1)), (3, .int v3), (4, .int v4), (5, .int v5), (6, .int v6), (7, .int v7)] [.int v6] (by decide +kernel) rfl rfl ?_
        refine jcS_I C 44 (rest := []) (ok_X1_drawBehind h) (by decide +kernel : decode cX1_drawDays 41 = .ok (.invokestatic 103, 3)) rfl wd_1094 wd_1095 wd_6 wd_1096 ⟨rfl, rfl⟩ hd_X1_drawBehind ⟨Nat.le_of_ble_eq_true rfl, Nat.le_of_ble_eq_true rfl⟩ rfl rfl (Nat.le_of_ble_eq_true rfl) ⟨Nat.zero_le _, Nat.zero_le _⟩ (fun r6 S5 h => ?_)
        refine jB C [(.istore 6, 2, 0), (.iload 6, 2, 0), (.iload 4, 2, 0)] 50 [(6, .int r6), (0, .ref (b + v0)), (1, .ref (b + v1)), (3, .int v3), (4, .int v4), (5, .int v5), (7, .int v7)] [.int v4, .int r6] (by decide +kernel) rfl rfl ?_
        obtain ⟨y29, h⟩ := h
        refine jIrem C 51 (by decide +kernel : decode cX1_drawDays 50 = .ok (.irem, 1)) rfl y29 ?_
        refine jTopI (fun x7 e_x7 => ?_)
        have h := h x7 e_x7
        refine jB C [(.istore 8, 2, 0), (.iload 6, 2, 0)] 55 [(8, .int x7), (6, .int r6), (0, .ref (b + v0)), (1, .ref (b + v1)), (3, .int v3), (4, .int v4), (5, .int v5), (7, .int v7)] [.int r6] (by decide +kernel) rfl rfl ?_
        refine jcS_I C 58 (rest := []) (ok_X1_drawBehind h) (by decide +kernel : decode cX1_drawDays 55 = .ok (.invokestatic 103, 3)) rfl wd_1094 wd_1095 wd_6 wd_1096 ⟨rfl, rfl⟩ hd_X1_drawBehind ⟨Nat.le_of_ble_eq_true rfl, Nat.le_of_ble_eq_true rfl⟩ rfl rfl (Nat.le_of_ble_eq_true rfl) ⟨Nat.zero_le _, Nat.zero_le _⟩ (fun r9 S8 h => ?_)
        refine jB C [(.istore 6, 2, 0), (.iload 6, 2, 0), (.iconst 4, 1, 4)] 63 [(6, .int r9), (8, .int x7), (0, .ref (b + v0)), (1, .ref (b + v1)), (3, .int v3), (4, .int v4), (5, .int v5), (7, .int v7)] [.int 4, .int r9] (by decide +kernel) rfl rfl ?_
        refine jIrem C 64 (by decide +kernel : decode cX1_drawDays 63 = .ok (.irem, 1)) rfl (by decide) ?_
        refine jTopI (fun x10 e_x10 => ?_)
        have h := h x10 e_x10
        refine jB C [(.istore 9, 2, 0), (.iload 6, 2, 0)] 68 [(9, .int x10), (6, .int r9), (8, .int x7), (0, .ref (b + v0)), (1, .ref (b + v1)), (3, .int v3), (4, .int v4), (5, .int v5), (7, .int v7)] [.int r9] (by decide +kernel) rfl rfl ?_
        refine jcS_I C 71 (rest := []) (ok_X1_drawBehind h) (by decide +kernel : decode cX1_drawDays 68 = .ok (.invokestatic 103, 3)) rfl wd_1094 wd_1095 wd_6 wd_1096 ⟨rfl, rfl⟩ hd_X1_drawBehind ⟨Nat.le_of_ble_eq_true rfl, Nat.le_of_ble_eq_true rfl⟩ rfl rfl (Nat.le_of_ble_eq_true rfl) ⟨Nat.zero_le _, Nat.zero_le _⟩ (fun r12 S11 h => ?_)
        refine jB C [(.istore 6, 2, 0), (.iload 6, 2, 0), (.iconst 3, 1, 3)] 76 [(6, .int r12), (9, .int x10), (8, .int x7), (0, .ref (b + v0)), (1, .ref (b + v1)), (3, .int v3), (4, .int v4), (5, .int v5), (7, .int v7)] [.int 3, .int r12] (by decide +kernel) rfl rfl ?_
        refine jIrem C 77 (by decide +kernel : decode cX1_drawDays 76 = .ok (.irem, 1)) rfl (by decide) ?_
        refine jTopI (fun x13 e_x13 => ?_)
        have h := h x13 e_x13
        refine jB C [(.istore 10, 2, 0), (.iload 10, 2, 0), (.iconst 1, 1, 1)] 82 [(10, .int x13), (6, .int r12), (9, .int x10), (8, .int x7), (0, .ref (b + v0)), (1, .ref (b + v1)), (3, .int v3), (4, .int v4), (5, .int v5), (7, .int v7)] [.int 1, .int x13] (by decide +kernel) rfl rfl ?_
        refine jIcmp_eq C 85 109 (by decide +kernel : decode cX1_drawDays 82 = .ok (.if_icmp .eq 27, 3)) rfl rfl (fun c14 => ?_) (fun c14 => ?_)
        · have h := it1 h c14
          refine jB C [(.aload_n 0, 1, 0)] 110 [(10, .int x13), (6, .int r12), (9, .int x10), (8, .int x7), (0, .ref (b + v0)), (1, .ref (b + v1)), (3, .int v3), (4, .int v4), (5, .int v5), (7, .int v7)] [.ref (b + v0)] (by decide +kernel) rfl rfl ?_
          obtain ⟨a15, e_a15, h⟩ := h
          refine jGetR C 113 (by decide +kernel : decode cX1_drawDays 110 = .ok (.getfield 12, 3)) rfl t_v0 kX1 0 (by decide) rfl rfl (by decide) wd_132 e_a15 rfl (fun t_a15 => ?_)
          refine jB C [(.aload_n 1, 1, 0), (.iload 8, 2, 0)] 116 [(10, .int x13), (6, .int r12), (9, .int x10), (8, .int x7), (0, .ref (b + v0)), (1, .ref (b + v1)), (3, .int v3), (4, .int v4), (5, .int v5), (7, .int v7)] [.int x7, .ref (b + v1), .ref (b + a15)] (by decide +kernel) rfl rfl ?_
          refine jcVN_I C 119 (rest := []) (ok_X2_bars t_a15 t_v1 h) (by decide +kernel : decode cX1_drawDays 116 = .ok (.invokevirtual 83, 3)) rfl wn_829 wd_491 wp_23 wd_4 wd_492 ⟨rfl, rfl⟩ hd_X2_bars ⟨Nat.le_of_ble_eq_true rfl, Nat.le_of_ble_eq_true rfl⟩ t_a15 kX2 (by decide) rfl rfl rfl (Nat.le_of_ble_eq_true rfl) ⟨Nat.zero_le _, Nat.zero_le _⟩ (fun r17 S16 h => ?_)
          refine jIf_ne C 122 145 (by decide +kernel : decode cX1_drawDays 119 = .ok (.ifCond .ne 26, 3)) rfl rfl (fun c18 => ?_) (fun c18 => ?_)
          · have h := it2 h c18
            refine jSub [4, 5, 6, 7, 8, 1, 9] rfl ?_
            exact j_X1_drawDays_145 C hE t_v0 t_v1 ih h
          · have h := it1 h c18
            refine jB C [(.aload_n 1, 1, 0), (.iload 8, 2, 0), (.aload_n 0, 1, 0)] 126 [(10, .int x13), (6, .int r12), (9, .int x10), (8, .int x7), (0, .ref (b + v0)), (1, .ref (b + v1)), (3, .int v3), (4, .int v4), (5, .int v5), (7, .int v7)] [.ref (b + v0), .int x7, .ref (b + v1)] (by decide +kernel) rfl rfl ?_
            obtain ⟨a19, e_a19, h⟩ := h
            refine jGetR C 129 (by decide +kernel : decode cX1_drawDays 126 = .ok (.getfield 12, 3)) rfl t_v0 kX1 0 (by decide) rfl rfl (by decide) wd_132 e_a19 rfl (fun t_a19 => ?_)
            refine jB C [(.aload_n 1, 1, 0), (.aload_n 1, 1, 0)] 131 [(10, .int x13), (6, .int r12), (9, .int x10), (8, .int x7), (0, .ref (b + v0)), (1, .ref (b + v1)), (3, .int v3), (4, .int v4), (5, .int v5), (7, .int v7)] [.ref (b + v1), .ref (b + v1), .ref (b + a19), .int x7, .ref (b + v1)] (by decide +kernel) rfl rfl ?_
            refine jcVN_O C 134 (rest := [.ref (b + v1), .ref (b + a19), .int x7, .ref (b + v1)]) (ok_X5_lawInForce t_v1 h) (by decide +kernel : decode cX1_drawDays 131 = .ok (.invokevirtual 42, 3)) rfl wn_842 wd_447 wp_15 wd_2 wd_448 ⟨rfl, rfl⟩ hd_X5_lawInForce ⟨Nat.le_of_ble_eq_true rfl, Nat.le_of_ble_eq_true rfl⟩ t_v1 kX5 (by decide) rfl rfl rfl (Nat.le_of_ble_eq_true rfl) ⟨Nat.zero_le _, Nat.zero_le _⟩ (fun r21 S20 h => ?_)
            obtain ⟨t22, h⟩ := h
            refine jB C [(.iload 8, 2, 0)] 136 [(10, .int x13), (6, .int r12), (9, .int x10), (8, .int x7), (0, .ref (b + v0)), (1, .ref (b + v1)), (3, .int v3), (4, .int v4), (5, .int v5), (7, .int v7)] [.int x7, rv b r21, .ref (b + v1), .ref (b + a19), .int x7, .ref (b + v1)] (by decide +kernel) rfl rfl ?_
            refine jcVN_I C 139 (rest := [.int x7, .ref (b + v1)]) (ok_X2_glassBy t_a19 t_v1 t22 h) (by decide +kernel : decode cX1_drawDays 136 = .ok (.invokevirtual 46, 3)) rfl wn_843 wd_845 wp_72 wd_4 wd_846 ⟨rfl, rfl⟩ hd_X2_glassBy ⟨Nat.le_of_ble_eq_true rfl, Nat.le_of_ble_eq_true rfl⟩ t_a19 kX2 (by decide) rfl rfl rfl (Nat.le_of_ble_eq_true rfl) ⟨Nat.zero_le _, Nat.zero_le _⟩ (fun r24 S23 h => ?_)
            refine jcVN_V C 142 (rest := []) (ok_X5_setGlass t_v1 h) (by decide +kernel : decode cX1_drawDays 139 = .ok (.invokevirtual 50, 3)) rfl wn_848 wd_381 wp_5 wd_2 wd_382 ⟨rfl, rfl⟩ hd_X5_setGlass ⟨Nat.le_of_ble_eq_true rfl, Nat.le_of_ble_eq_true rfl⟩ t_v1 kX5 (by decide) rfl rfl rfl (Nat.le_of_ble_eq_true rfl) ⟨Nat.zero_le _, Nat.zero_le _⟩ (fun S25 h => ?_)
            refine jB C [(.iinc 5 1, 3, 1)] 145 [(5, .int (v5 + 1)), (10, .int x13), (6, .int r12), (9, .int x10), (8, .int x7), (0, .ref (b + v0)), (1, .ref (b + v1)), (3, .int v3), (4, .int v4), (7, .int v7)] [] (by decide +kernel) rfl rfl ?_
            refine jSub [5, 6, 7, 8, 0, 2, 9] rfl ?_
            exact j_X1_drawDays_145 C hE t_v0 t_v1 ih h
        · have h := it2 h c14
          refine jB C [(.aload_n 1, 1, 0), (.iload 8, 2, 0), (.iload 9, 2, 0), (.aload_n 1, 1, 0), (.iload 8, 2, 0), (.iload 9, 2, 0)] 95 [(10, .int x13), (6, .int r12), (9, .int x10), (8, .int x7), (0, .ref (b + v0)), (1, .ref (b + v1)), (3, .int v3), (4, .int v4), (5, .int v5), (7, .int v7)] [.int x10, .int x7, .ref (b + v1), .int x10, .int x7, .ref (b + v1)] (by decide +kernel) rfl rfl ?_
          refine jcVN_I C 98 (rest := [.int x10, .int x7, .ref (b + v1)]) (ok_X5_sinOf t_v1 h) (by decide +kernel : decode cX1_drawDays 95 = .ok (.invokevirtual 32, 3)) rfl wn_828 wd_398 wp_8 wd_2 wd_399 ⟨rfl, rfl⟩ hd_X5_sinOf ⟨Nat.le_of_ble_eq_true rfl, Nat.le_of_ble_eq_true rfl⟩ t_v1 kX5 (by decide) rfl rfl rfl (Nat.le_of_ble_eq_true rfl) ⟨Nat.zero_le _, Nat.zero_le _⟩ (fun r27 S26 h => ?_)
          refine jB C [(.iconst 1, 1, 1), (.iadd, 1, 0), (.iload 10, 2, 0), (.isub, 1, 0)] 103 [(10, .int x13), (6, .int r12), (9, .int x10), (8, .int x7), (0, .ref (b + v0)), (1, .ref (b + v1)), (3, .int v3), (4, .int v4), (5, .int v5), (7, .int v7)] [.int ((r27 + 1) - x13), .int x10, .int x7, .ref (b + v1)] (by decide +kernel) rfl rfl ?_
          refine jcVN_V C 106 (rest := []) (ok_X5_setSin t_v1 h) (by decide +kernel : decode cX1_drawDays 103 = .ok (.invokevirtual 38, 3)) rfl wn_841 wd_369 wp_3 wd_2 wd_370 ⟨rfl, rfl⟩ hd_X5_setSin ⟨Nat.le_of_ble_eq_true rfl, Nat.le_of_ble_eq_true rfl⟩ t_v1 kX5 (by decide) rfl rfl rfl (Nat.le_of_ble_eq_true rfl) ⟨Nat.zero_le _, Nat.zero_le _⟩ (fun S28 h => ?_)
          refine jGoto C 145 (by decide +kernel : decode cX1_drawDays 106 = .ok (.goto 39, 3)) rfl ?_
          refine jSub [4, 5, 6, 7, 8, 1, 9] rfl ?_
          exact j_X1_drawDays_145 C hE t_v0 t_v1 ih h
theorem j_X1_drawDays_22 {p : Program} {l : Launch} {e : Env} {s : State} {m : MethodId} {args : Array Value} {below : List Frame} {meth : Method} {c : Code} {b : Nat} {D : va_G} {cy : Nat → ClassId} {G : Gm} {v0 : Nat} {v1 : Nat} {v3 : Int32} {v4 : Int32} {v5 : Int32} {v6 : Int32} {v7 : Int32} {S : St} {Q : Int32 → St → Prop} (C : CX p s m args meth c b D cy cX1_drawDays RX1 11 (some .int)) (hE : s.heap.size + 0 ≤ b + G.2.2) (t_v0 : ok G 1 v0) (t_v1 : ok G 4 v1) (h : f_X1_drawDays_22 G v0 v1 v3 v4 Q v5 v6 v7 S) : J p l e rm_X1_drawDays s m args below meth c b D cy 11 (zI b D cy below args s G Q) 0 0 G S 22 [(0, .ref (b + v0)), (1, .ref (b + v1)), (3, .int v3), (4, .int v4), (5, .int v5), (6, .int v6), (7, .int v7)] [] := by
  obtain ⟨n, h⟩ := h
  exact j_X1_drawDays_22_n C hE t_v0 t_v1 n v5 v6 v7 S h
set_option maxHeartbeats 4000000 in
set_option maxRecDepth 100000 in
theorem j_X1_drawDays {p : Program} {l : Launch} {e : Env} {s : State} {m : MethodId} {args : Array Value} {below : List Frame} {meth : Method} {c : Code} {b : Nat} {D : va_G} {cy : Nat → ClassId} {G : Gm} {v0 : Nat} {v1 : Nat} {v2 : Int32} {v3 : Int32} {S : St} {Q : Int32 → St → Prop} (C : CX p s m args meth c b D cy cX1_drawDays RX1 11 (some .int)) (hE : s.heap.size + 0 ≤ b + G.2.2) (t_v0 : ok G 1 v0) (t_v1 : ok G 4 v1) (h : f_X1_drawDays G v0 v1 v2 v3 Q S) : J p l e rm_X1_drawDays s m args below meth c b D cy 11 (zI b D cy below args s G Q) 0 0 G S 0 [(0, .ref (b + v0)), (1, .ref (b + v1)), (2, .int v2), (3, .int v3)] [] := by
  unfold f_X1_drawDays at h
  refine jB C [(.aload_n 1, 1, 0)] 1 [(0, .ref (b + v0)), (1, .ref (b + v1)), (2, .int v2), (3, .int v3)] [.ref (b + v1)] (by decide +kernel) rfl rfl ?_
  refine jGetIN C 4 (by decide +kernel : decode cX1_drawDays 1 = .ok (.getfield 93, 3)) rfl t_v1 kX5 0 (by decide) rfl rfl (by decide) wn_38 ?_
  refine jTopI (fun x1 e_x1 => ?_)
  have h := h x1 e_x1
  refine jB C [(.istore 4, 2, 0), (.iload 4, 2, 0)] 8 [(4, .int x1), (0, .ref (b + v0)), (1, .ref (b + v1)), (2, .int v2), (3, .int v3)] [.int x1] (by decide +kernel) rfl rfl ?_
  refine jIf_gt C 11 13 (by decide +kernel : decode cX1_drawDays 8 = .ok (.ifCond .gt 5, 3)) rfl rfl (fun c2 => ?_) (fun c2 => ?_)
  · have h := it1 h c2
    refine jB C [(.iconst 0, 1, 0), (.istore 5, 2, 0), (.iload_n 2, 1, 0), (.istore 6, 2, 0), (.iconst 0, 1, 0), (.istore 7, 2, 0)] 22 [(7, .int 0), (6, .int v2), (5, .int 0), (4, .int x1), (0, .ref (b + v0)), (1, .ref (b + v1)), (2, .int v2), (3, .int v3)] [] (by decide +kernel) rfl rfl ?_
    refine jSub [4, 5, 7, 3, 2, 1, 0] rfl ?_
    exact j_X1_drawDays_22 C hE t_v0 t_v1 h
  · have h := it2 h c2
    refine jB C [(.iconst 0, 1, 0)] 12 [(4, .int x1), (0, .ref (b + v0)), (1, .ref (b + v1)), (2, .int v2), (3, .int v3)] [.int 0] (by decide +kernel) rfl rfl ?_
    exact jRetI C (by decide +kernel : decode cX1_drawDays 12 = .ok (.ireturn, 1)) (Nat.le_refl _) (Nat.le_refl _) ⟨rfl, h⟩
theorem ok_X1_drawDays {G : Gm} {v0 : Nat} {v1 : Nat} {v2 : Int32} {v3 : Int32} {S : St} {Q : Int32 → St → Prop} (t_v0 : ok G 1 v0) (t_v1 : ok G 4 v1) (h : f_X1_drawDays G v0 v1 v2 v3 Q S) : MT yX1_drawDays cX1_drawDays 11 (some .int) rm_X1_drawDays 0 0 (fun b => [.ref (b + v0), .ref (b + v1), .int v2, .int v3]) G S (QI (fun r G1 S1 => G1 = G ∧ Q r S1)) := MT.ofJ (by decide) (fun b => [(0, .ref (b + v0)), (1, .ref (b + v1)), (2, .int v2), (3, .int v3)]) (fun b => rfl) (fun b => Nat.le_of_ble_eq_true rfl) (fun l b D cy p e s m below meth c C hE hn => j_X1_drawDays C hE t_v0 t_v1 h)
theorem hd_X1_drawDays : yX1_drawDays.cls ≠ "java/lang/invoke/MethodHandle" ∧ yX1_drawDays.cls ≠ "java/lang/invoke/VarHandle" ∧ (parseMethodDescriptor yX1_drawDays.desc).map (fun d => d.parameters.length) = some 3 := by decide +kernel
def f_X10_months_22 (G : Gm) (v0 : Nat) (Q : Int32 → St → Prop) (S : St) : Prop :=
  f_X10_refuse G v0 (-1) (fun r2 S1 => Q r2 S1) S
def f_X10_months (G : Gm) (v0 : Nat) (v1 : Int32) (v2 : Int32) (Q : Int32 → St → Prop) (S : St) : Prop :=
  (if v1 < 0 then f_X10_months_22 G v0 Q S else (if 1000000 < v1 then f_X10_months_22 G v0 Q S else (if v2 < 1 then f_X10_months_22 G v0 Q S else (if v2 ≤ 60 then (∃ a5, S.2.2 v0 0 = some a5 ∧ (if (S.1 a5 0) = 0 then f_X10_refuse G v0 (-3) (fun r17 S16 => Q r17 S16) S else (∃ a7, S.2.2 v0 1 = some a7 ∧ (∃ a8, S.2.2 v0 0 = some a8 ∧ f_X5_copyFrom G a7 a8 (fun S9 => (∃ a10, S9.2.2 v0 5 = some a10 ∧ (∃ a11, S9.2.2 v0 1 = some a11 ∧ f_X1_drawDays G a10 a11 v1 v2 (fun r13 S12 => f_X10_accept G v0 r13 (fun r15 S14 => Q r15 S14) S12) S9))) S)))) else f_X10_months_22 G v0 Q S))))
abbrev rm_X10_months : Room := { frames := 6, cells := 0, slots := 0, locals := 163 }
set_option maxHeartbeats 4000000 in
set_option maxRecDepth 100000 in
theorem j_X10_months_22 {p : Program} {l : Launch} {e : Env} {s : State} {m : MethodId} {args : Array Value} {below : List Frame} {meth : Method} {c : Code} {b : Nat} {D : va_G} {cy : Nat → ClassId} {G : Gm} {v0 : Nat} {S : St} {Q : Int32 → St → Prop} (C : CX p s m args meth c b D cy cX10_months RX10 3 (some .int)) (hE : s.heap.size + 0 ≤ b + G.2.2) (t_v0 : ok G 9 v0) (h : f_X10_months_22 G v0 Q S) : J p l e rm_X10_months s m args below meth c b D cy 3 (zI b D cy below args s G Q) 0 0 G S 22 [(0, .ref (b + v0))] [] := by
  unfold f_X10_months_22 at h
  refine jB C [(.aload_n 0, 1, 0), (.iconst (-1), 1, (-1))] 24 [(0, .ref (b + v0))] [.int (-1), .ref (b + v0)] (by decide +kernel) rfl rfl ?_
  refine jcV_I C 27 (rest := []) (ok_X10_refuse t_v0 h) (by decide +kernel : decode cX10_months 24 = .ok (.invokevirtual 78, 3)) rfl wd_355 wd_357 wp_0 wd_1 wd_358 ⟨rfl, rfl⟩ hd_X10_refuse ⟨Nat.le_of_ble_eq_true rfl, Nat.le_of_ble_eq_true rfl⟩ t_v0 kX10 (by decide) rfl rfl rfl (Nat.le_of_ble_eq_true rfl) ⟨Nat.zero_le _, Nat.zero_le _⟩ (fun r2 S1 h => ?_)
  exact jRetI C (by decide +kernel : decode cX10_months 27 = .ok (.ireturn, 1)) (Nat.le_refl _) (Nat.le_refl _) ⟨rfl, h⟩
set_option maxHeartbeats 4000000 in
set_option maxRecDepth 100000 in
theorem j_X10_months {p : Program} {l : Launch} {e : Env} {s : State} {m : MethodId} {args : Array Value} {below : List Frame} {meth : Method} {c : Code} {b : Nat} {D : va_G} {cy : Nat → ClassId} {G : Gm} {v0 : Nat} {v1 : Int32} {v2 : Int32} {S : St} {Q : Int32 → St → Prop} (C : CX p s m args meth c b D cy cX10_months RX10 3 (some .int)) (hE : s.heap.size + 0 ≤ b + G.2.2) (t_v0 : ok G 9 v0) (h : f_X10_months G v0 v1 v2 Q S) : J p l e rm_X10_months s m args below meth c b D cy 3 (zI b D cy below args s G Q) 0 0 G S 0 [(0, .ref (b + v0)), (1, .int v1), (2, .int v2)] [] := by
  unfold f_X10_months at h
  refine jB C [(.iload_n 1, 1, 0)] 1 [(0, .ref (b + v0)), (1, .int v1), (2, .int v2)] [.int v1] (by decide +kernel) rfl rfl ?_
  refine jIf_lt C 4 22 (by decide +kernel : decode cX10_months 1 = .ok (.ifCond .lt 21, 3)) rfl rfl (fun c1 => ?_) (fun c1 => ?_)
  · have h := it1 h c1
    refine jSub [0] rfl ?_
    exact j_X10_months_22 C hE t_v0 h
  · have h := it2 h c1
    refine jB C [(.iload_n 1, 1, 0)] 5 [(0, .ref (b + v0)), (1, .int v1), (2, .int v2)] [.int v1] (by decide +kernel) rfl rfl ?_
    refine jLdcw C 8 (by decide +kernel : decode cX10_months 5 = .ok (.ldc_w 300, 3)) rfl wd_1088 ?_
    refine jIcmp_gt C 11 22 (by decide +kernel : decode cX10_months 8 = .ok (.if_icmp .gt 14, 3)) rfl rfl (fun c2 => ?_) (fun c2 => ?_)
    · have h := it1 h c2
      refine jSub [0] rfl ?_
      exact j_X10_months_22 C hE t_v0 h
    · have h := it2 h c2
      refine jB C [(.iload_n 2, 1, 0), (.iconst 1, 1, 1)] 13 [(0, .ref (b + v0)), (1, .int v1), (2, .int v2)] [.int 1, .int v2] (by decide +kernel) rfl rfl ?_
      refine jIcmp_lt C 16 22 (by decide +kernel : decode cX10_months 13 = .ok (.if_icmp .lt 9, 3)) rfl rfl (fun c3 => ?_) (fun c3 => ?_)
      · have h := it1 h c3
        refine jSub [0] rfl ?_
        exact j_X10_months_22 C hE t_v0 h
      · have h := it2 h c3
        refine jB C [(.iload_n 2, 1, 0), (.bipush 60, 2, 60)] 19 [(0, .ref (b + v0)), (1, .int v1), (2, .int v2)] [.int 60, .int v2] (by decide +kernel) rfl rfl ?_
        refine jIcmp_le C 22 28 (by decide +kernel : decode cX10_months 19 = .ok (.if_icmp .le 9, 3)) rfl rfl (fun c4 => ?_) (fun c4 => ?_)
        · have h := it1 h c4
          refine jB C [(.aload_n 0, 1, 0)] 29 [(0, .ref (b + v0)), (1, .int v1), (2, .int v2)] [.ref (b + v0)] (by decide +kernel) rfl rfl ?_
          obtain ⟨a5, e_a5, h⟩ := h
          refine jGetR C 32 (by decide +kernel : decode cX10_months 29 = .ok (.getfield 14, 3)) rfl t_v0 kX10 0 (by decide) rfl rfl (by decide) wd_311 e_a5 rfl (fun t_a5 => ?_)
          refine jGetIN C 35 (by decide +kernel : decode cX10_months 32 = .ok (.getfield 75, 3)) rfl t_a5 kX5 0 (by decide) rfl rfl (by decide) wn_37 ?_
          refine jIf_ne C 38 45 (by decide +kernel : decode cX10_months 35 = .ok (.ifCond .ne 10, 3)) rfl rfl (fun c6 => ?_) (fun c6 => ?_)
          · have h := it2 h c6
            refine jB C [(.aload_n 0, 1, 0)] 46 [(0, .ref (b + v0)), (1, .int v1), (2, .int v2)] [.ref (b + v0)] (by decide +kernel) rfl rfl ?_
            obtain ⟨a7, e_a7, h⟩ := h
            refine jGetR C 49 (by decide +kernel : decode cX10_months 46 = .ok (.getfield 18, 3)) rfl t_v0 kX10 1 (by decide) rfl rfl (by decide) wd_312 e_a7 rfl (fun t_a7 => ?_)
            refine jB C [(.aload_n 0, 1, 0)] 50 [(0, .ref (b + v0)), (1, .int v1), (2, .int v2)] [.ref (b + v0), .ref (b + a7)] (by decide +kernel) rfl rfl ?_
            obtain ⟨a8, e_a8, h⟩ := h
            refine jGetR C 53 (by decide +kernel : decode cX10_months 50 = .ok (.getfield 14, 3)) rfl t_v0 kX10 0 (by decide) rfl rfl (by decide) wd_311 e_a8 rfl (fun t_a8 => ?_)
            refine jcVN_V C 56 (rest := []) (ok_X5_copyFrom t_a7 t_a8 h) (by decide +kernel : decode cX10_months 53 = .ok (.invokevirtual 301, 3)) rfl wn_1089 wd_782 wp_63 wd_2 wd_783 ⟨rfl, rfl⟩ hd_X5_copyFrom ⟨Nat.le_of_ble_eq_true rfl, Nat.le_of_ble_eq_true rfl⟩ t_a7 kX5 (by decide) rfl rfl rfl (Nat.le_of_ble_eq_true rfl) ⟨Nat.zero_le _, Nat.zero_le _⟩ (fun S9 h => ?_)
            refine jB C [(.aload_n 0, 1, 0), (.aload_n 0, 1, 0)] 58 [(0, .ref (b + v0)), (1, .int v1), (2, .int v2)] [.ref (b + v0), .ref (b + v0)] (by decide +kernel) rfl rfl ?_
            obtain ⟨a10, e_a10, h⟩ := h
            refine jGetR C 61 (by decide +kernel : decode cX10_months 58 = .ok (.getfield 42, 3)) rfl t_v0 kX10 5 (by decide) rfl rfl (by decide) wd_316 e_a10 rfl (fun t_a10 => ?_)
            refine jB C [(.aload_n 0, 1, 0)] 62 [(0, .ref (b + v0)), (1, .int v1), (2, .int v2)] [.ref (b + v0), .ref (b + a10), .ref (b + v0)] (by decide +kernel) rfl rfl ?_
            obtain ⟨a11, e_a11, h⟩ := h
            refine jGetR C 65 (by decide +kernel : decode cX10_months 62 = .ok (.getfield 18, 3)) rfl t_v0 kX10 1 (by decide) rfl rfl (by decide) wd_312 e_a11 rfl (fun t_a11 => ?_)
            refine jB C [(.iload_n 1, 1, 0), (.iload_n 2, 1, 0)] 67 [(0, .ref (b + v0)), (1, .int v1), (2, .int v2)] [.int v2, .int v1, .ref (b + a11), .ref (b + a10), .ref (b + v0)] (by decide +kernel) rfl rfl ?_
            refine jcVN_I C 70 (rest := [.ref (b + v0)]) (ok_X1_drawDays t_a10 t_a11 h) (by decide +kernel : decode cX10_months 67 = .ok (.invokevirtual 305, 3)) rfl wn_1090 wd_1092 wp_97 wd_6 wd_1093 ⟨rfl, rfl⟩ hd_X1_drawDays ⟨Nat.le_of_ble_eq_true rfl, Nat.le_of_ble_eq_true rfl⟩ t_a10 kX1 (by decide) rfl rfl rfl (Nat.le_of_ble_eq_true rfl) ⟨Nat.zero_le _, Nat.zero_le _⟩ (fun r13 S12 h => ?_)
            refine jcV_I C 73 (rest := []) (ok_X10_accept t_v0 h) (by decide +kernel : decode cX10_months 70 = .ok (.invokevirtual 89, 3)) rfl wd_387 wd_389 wp_7 wd_1 wd_390 ⟨rfl, rfl⟩ hd_X10_accept ⟨Nat.le_of_ble_eq_true rfl, Nat.le_of_ble_eq_true rfl⟩ t_v0 kX10 (by decide) rfl rfl rfl (Nat.le_of_ble_eq_true rfl) ⟨Nat.zero_le _, Nat.zero_le _⟩ (fun r15 S14 h => ?_)
            exact jRetI C (by decide +kernel : decode cX10_months 73 = .ok (.ireturn, 1)) (Nat.le_refl _) (Nat.le_refl _) ⟨rfl, h⟩
          · have h := it1 h c6
            refine jB C [(.aload_n 0, 1, 0), (.bipush (-3), 2, (-3))] 41 [(0, .ref (b + v0)), (1, .int v1), (2, .int v2)] [.int (-3), .ref (b + v0)] (by decide +kernel) rfl rfl ?_
            refine jcV_I C 44 (rest := []) (ok_X10_refuse t_v0 h) (by decide +kernel : decode cX10_months 41 = .ok (.invokevirtual 78, 3)) rfl wd_355 wd_357 wp_0 wd_1 wd_358 ⟨rfl, rfl⟩ hd_X10_refuse ⟨Nat.le_of_ble_eq_true rfl, Nat.le_of_ble_eq_true rfl⟩ t_v0 kX10 (by decide) rfl rfl rfl (Nat.le_of_ble_eq_true rfl) ⟨Nat.zero_le _, Nat.zero_le _⟩ (fun r17 S16 h => ?_)
            exact jRetI C (by decide +kernel : decode cX10_months 44 = .ok (.ireturn, 1)) (Nat.le_refl _) (Nat.le_refl _) ⟨rfl, h⟩
        · have h := it2 h c4
          refine jSub [0] rfl ?_
          exact j_X10_months_22 C hE t_v0 h
theorem ok_X10_months {G : Gm} {v0 : Nat} {v1 : Int32} {v2 : Int32} {S : St} {Q : Int32 → St → Prop} (t_v0 : ok G 9 v0) (h : f_X10_months G v0 v1 v2 Q S) : MT yX10_months cX10_months 3 (some .int) rm_X10_months 0 0 (fun b => [.ref (b + v0), .int v1, .int v2]) G S (QI (fun r G1 S1 => G1 = G ∧ Q r S1)) := MT.ofJ (by decide) (fun b => [(0, .ref (b + v0)), (1, .int v1), (2, .int v2)]) (fun b => rfl) (fun b => Nat.le_of_ble_eq_true rfl) (fun l b D cy p e s m below meth c C hE hn => j_X10_months C hE t_v0 h)
theorem hd_X10_months : yX10_months.cls ≠ "java/lang/invoke/MethodHandle" ∧ yX10_months.cls ≠ "java/lang/invoke/VarHandle" ∧ (parseMethodDescriptor yX10_months.desc).map (fun d => d.parameters.length) = some 2 := by decide +kernel
def f_X3_lensAt_9_n (G : Gm) (v0 : Int32) (v1 : Int32) (Q : Int32 → St → Prop) : Nat → Int32 → Int32 → St → Prop
  | 0, _, _, _ => False
  | n + 1, v2, v3, S => (if v3 ≤ v1 then (if v1 < 0 then Q (-1) S else f_X3_lensesIn G v0 (fun r4 S3 => (if r4 ≤ v1 then Q (-1) S3 else Q ((v2 - v2 / 10 * 10) - 1) S3)) S) else (∀ x6 : Int32, x6 = v2 / 10 → (f_X3_lensAt_9_n G v0 v1 Q n) x6 (v3 + (-1)) S))
def f_X3_lensAt_9 (G : Gm) (v0 : Int32) (v1 : Int32) (Q : Int32 → St → Prop) (v2 : Int32) (v3 : Int32) (S : St) : Prop := ∃ n, f_X3_lensAt_9_n G v0 v1 Q n v2 v3 S
def f_X3_lensAt (G : Gm) (v0 : Int32) (v1 : Int32) (Q : Int32 → St → Prop) (S : St) : Prop :=
  f_X3_lensesIn G v0 (fun r2 S1 => (∀ x3 : Int32, x3 = r2 - 1 → f_X3_lensAt_9 G v0 v1 Q v0 x3 S1)) S
abbrev rm_X3_lensAt : Room := { frames := 1, cells := 0, slots := 0, locals := 23 }
set_option maxHeartbeats 4000000 in
set_option maxRecDepth 100000 in
theorem j_X3_lensAt_9_n {p : Program} {l : Launch} {e : Env} {s : State} {m : MethodId} {args : Array Value} {below : List Frame} {meth : Method} {c : Code} {b : Nat} {D : va_G} {cy : Nat → ClassId} {G : Gm} {v0 : Int32} {v1 : Int32} {Q : Int32 → St → Prop} (C : CX p s m args meth c b D cy cX3_lensAt RX3 4 (some .int)) (hE : s.heap.size + 0 ≤ b + G.2.2) : ∀ n (v2 : Int32) (v3 : Int32) S, f_X3_lensAt_9_n G v0 v1 Q n v2 v3 S → J p l e rm_X3_lensAt s m args below meth c b D cy 4 (zI b D cy below args s G Q) 0 0 G S 9 [(0, .int v0), (1, .int v1), (2, .int v2), (3, .int v3)] [] := by
  intro n
  induction n with
  | zero => intro v2 v3 S h; exact h.elim
  | succ n ih =>
    intro v2 v3 S h
    unfold f_X3_lensAt_9_n at h
    refine jB C [(.iload_n 3, 1, 0), (.iload_n 1, 1, 0)] 11 [(0, .int v0), (1, .int v1), (2, .int v2), (3, .int v3)] [.int v1, .int v3] (by decide +kernel) rfl rfl ?_
    refine jIcmp_le C 14 25 (by decide +kernel : decode cX3_lensAt 11 = .ok (.if_icmp .le 14, 3)) rfl rfl (fun c1 => ?_) (fun c1 => ?_)
    · have h := it1 h c1
      refine jB C [(.iload_n 1, 1, 0)] 26 [(0, .int v0), (1, .int v1), (2, .int v2), (3, .int v3)] [.int v1] (by decide +kernel) rfl rfl ?_
      refine jIf_lt C 29 46 (by decide +kernel : decode cX3_lensAt 26 = .ok (.ifCond .lt 20, 3)) rfl rfl (fun c2 => ?_) (fun c2 => ?_)
      · have h := it1 h c2
        refine jB C [(.iconst (-1), 1, (-1))] 47 [(0, .int v0), (1, .int v1), (2, .int v2), (3, .int v3)] [.int (-1)] (by decide +kernel) rfl rfl ?_
        exact jRetI C (by decide +kernel : decode cX3_lensAt 47 = .ok (.ireturn, 1)) (Nat.le_refl _) (Nat.le_refl _) ⟨rfl, h⟩
      · have h := it2 h c2
        refine jB C [(.iload_n 1, 1, 0), (.iload_n 0, 1, 0)] 31 [(0, .int v0), (1, .int v1), (2, .int v2), (3, .int v3)] [.int v0, .int v1] (by decide +kernel) rfl rfl ?_
        refine jcS_I C 34 (rest := [.int v1]) (ok_X3_lensesIn h) (by decide +kernel : decode cX3_lensAt 31 = .ok (.invokestatic 15, 3)) rfl wd_407 wd_408 wd_13 wd_409 ⟨rfl, rfl⟩ hd_X3_lensesIn ⟨Nat.le_of_ble_eq_true rfl, Nat.le_of_ble_eq_true rfl⟩ rfl rfl (Nat.le_of_ble_eq_true rfl) ⟨Nat.zero_le _, Nat.zero_le _⟩ (fun r4 S3 h => ?_)
        refine jIcmp_ge C 37 46 (by decide +kernel : decode cX3_lensAt 34 = .ok (.if_icmp .ge 12, 3)) rfl rfl (fun c5 => ?_) (fun c5 => ?_)
        · have h := it1 h c5
          refine jB C [(.iconst (-1), 1, (-1))] 47 [(0, .int v0), (1, .int v1), (2, .int v2), (3, .int v3)] [.int (-1)] (by decide +kernel) rfl rfl ?_
          exact jRetI C (by decide +kernel : decode cX3_lensAt 47 = .ok (.ireturn, 1)) (Nat.le_refl _) (Nat.le_refl _) ⟨rfl, h⟩
        · have h := it2 h c5
          refine jB C [(.iload_n 2, 1, 0), (.bipush 10, 2, 10)] 40 [(0, .int v0), (1, .int v1), (2, .int v2), (3, .int v3)] [.int 10, .int v2] (by decide +kernel) rfl rfl ?_
          refine jIrem C 41 (by decide +kernel : decode cX3_lensAt 40 = .ok (.irem, 1)) rfl (by decide) ?_
          refine jB C [(.iconst 1, 1, 1), (.isub, 1, 0)] 43 [(0, .int v0), (1, .int v1), (2, .int v2), (3, .int v3)] [.int ((v2 - v2 / 10 * 10) - 1)] (by decide +kernel) rfl rfl ?_
          refine jGoto C 47 (by decide +kernel : decode cX3_lensAt 43 = .ok (.goto 4, 3)) rfl ?_
          exact jRetI C (by decide +kernel : decode cX3_lensAt 47 = .ok (.ireturn, 1)) (Nat.le_refl _) (Nat.le_refl _) ⟨rfl, h⟩
    · have h := it2 h c1
      refine jB C [(.iload_n 2, 1, 0), (.bipush 10, 2, 10)] 17 [(0, .int v0), (1, .int v1), (2, .int v2), (3, .int v3)] [.int 10, .int v2] (by decide +kernel) rfl rfl ?_
      refine jIdiv C 18 (by decide +kernel : decode cX3_lensAt 17 = .ok (.idiv, 1)) rfl (by decide) ?_
      refine jTopI (fun x6 e_x6 => ?_)
      have h := h x6 e_x6
      refine jB C [(.istore_n 2, 1, 0), (.iinc 3 (-1), 3, (-1))] 22 [(3, .int (v3 + (-1))), (2, .int x6), (0, .int v0), (1, .int v1)] [] (by decide +kernel) rfl rfl ?_
      refine jGoto C 9 (by decide +kernel : decode cX3_lensAt 22 = .ok (.goto (-13), 3)) rfl ?_
      refine jSub [2, 3, 1, 0] rfl ?_
      exact ih x6 (v3 + (-1)) S h
theorem j_X3_lensAt_9 {p : Program} {l : Launch} {e : Env} {s : State} {m : MethodId} {args : Array Value} {below : List Frame} {meth : Method} {c : Code} {b : Nat} {D : va_G} {cy : Nat → ClassId} {G : Gm} {v0 : Int32} {v1 : Int32} {v2 : Int32} {v3 : Int32} {S : St} {Q : Int32 → St → Prop} (C : CX p s m args meth c b D cy cX3_lensAt RX3 4 (some .int)) (hE : s.heap.size + 0 ≤ b + G.2.2) (h : f_X3_lensAt_9 G v0 v1 Q v2 v3 S) : J p l e rm_X3_lensAt s m args below meth c b D cy 4 (zI b D cy below args s G Q) 0 0 G S 9 [(0, .int v0), (1, .int v1), (2, .int v2), (3, .int v3)] [] := by
  obtain ⟨n, h⟩ := h
  exact j_X3_lensAt_9_n C hE n v2 v3 S h
set_option maxHeartbeats 4000000 in
set_option maxRecDepth 100000 in
theorem j_X3_lensAt {p : Program} {l : Launch} {e : Env} {s : State} {m : MethodId} {args : Array Value} {below : List Frame} {meth : Method} {c : Code} {b : Nat} {D : va_G} {cy : Nat → ClassId} {G : Gm} {v0 : Int32} {v1 : Int32} {S : St} {Q : Int32 → St → Prop} (C : CX p s m args meth c b D cy cX3_lensAt RX3 4 (some .int)) (hE : s.heap.size + 0 ≤ b + G.2.2) (h : f_X3_lensAt G v0 v1 Q S) : J p l e rm_X3_lensAt s m args below meth c b D cy 4 (zI b D cy below args s G Q) 0 0 G S 0 [(0, .int v0), (1, .int v1)] [] := by
  unfold f_X3_lensAt at h
  refine jB C [(.iload_n 0, 1, 0), (.istore_n 2, 1, 0), (.iload_n 0, 1, 0)] 3 [(2, .int v0), (0, .int v0), (1, .int v1)] [.int v0] (by decide +kernel) rfl rfl ?_
  refine jcS_I C 6 (rest := []) (ok_X3_lensesIn h) (by decide +kernel : decode cX3_lensAt 3 = .ok (.invokestatic 15, 3)) rfl wd_407 wd_408 wd_13 wd_409 ⟨rfl, rfl⟩ hd_X3_lensesIn ⟨Nat.le_of_ble_eq_true rfl, Nat.le_of_ble_eq_true rfl⟩ rfl rfl (Nat.le_of_ble_eq_true rfl) ⟨Nat.zero_le _, Nat.zero_le _⟩ (fun r2 S1 h => ?_)
  refine jB C [(.iconst 1, 1, 1), (.isub, 1, 0)] 8 [(2, .int v0), (0, .int v0), (1, .int v1)] [.int (r2 - 1)] (by decide +kernel) rfl rfl ?_
  refine jTopI (fun x3 e_x3 => ?_)
  have h := h x3 e_x3
  refine jB C [(.istore_n 3, 1, 0)] 9 [(3, .int x3), (2, .int v0), (0, .int v0), (1, .int v1)] [] (by decide +kernel) rfl rfl ?_
  refine jSub [2, 3, 1, 0] rfl ?_
  exact j_X3_lensAt_9 C hE h
theorem ok_X3_lensAt {G : Gm} {v0 : Int32} {v1 : Int32} {S : St} {Q : Int32 → St → Prop} (h : f_X3_lensAt G v0 v1 Q S) : MT yX3_lensAt cX3_lensAt 4 (some .int) rm_X3_lensAt 0 0 (fun b => [.int v0, .int v1]) G S (QI (fun r G1 S1 => G1 = G ∧ Q r S1)) := MT.ofJ (by decide) (fun b => [(0, .int v0), (1, .int v1)]) (fun b => rfl) (fun b => Nat.le_of_ble_eq_true rfl) (fun l b D cy p e s m below meth c C hE hn => j_X3_lensAt C hE h)
theorem hd_X3_lensAt : yX3_lensAt.cls ≠ "java/lang/invoke/MethodHandle" ∧ yX3_lensAt.cls ≠ "java/lang/invoke/VarHandle" ∧ (parseMethodDescriptor yX3_lensAt.desc).map (fun d => d.parameters.length) = some 2 := by decide +kernel
def f_X10_of_58 (G : Gm) (v0 : Nat) (v1 : Int32) (v2 : Int32) (Q : Int32 → St → Prop) (S : St) : Prop :=
  (if v2 = 4 then (∃ a1, S.2.2 v0 0 = some a1 ∧ f_X5_glassOf G a1 v1 (fun r3 S2 => f_X3_lensesIn G r3 (fun r5 S4 => Q r5 S4) S2) S) else (if v2 = 5 then Q (-1) S else (if v2 = 6 then Q (-1) S else (if v2 = 7 then Q (-1) S else (if v2 = 8 then Q (-1) S else (if v2 = 9 then (∃ a6, S.2.2 v0 0 = some a6 ∧ f_X5_sightOf G a6 v1 (fun r8 S7 => Q r8 S7) S) else (if v2 = 10 then (∃ a9, S.2.2 v0 4 = some a9 ∧ (∃ a10, S.2.2 v0 0 = some a10 ∧ (∃ a11, S.2.2 v0 0 = some a11 ∧ f_X5_sightOf G a11 v1 (fun r13 S12 => f_X2_deed G a9 a10 v1 r13 (fun r15 S14 => Q r15 S14) S12) S))) else (if v2 = 11 then (∃ a16, S.2.2 v0 0 = some a16 ∧ f_X5_wantedOf G a16 v1 (fun r18 S17 => Q r18 S17) S) else (if v2 = 12 then (∃ a19, S.2.2 v0 4 = some a19 ∧ (∃ a20, S.2.2 v0 0 = some a20 ∧ f_X2_bars G a19 a20 v1 (fun r22 S21 => (if r22 = 0 then Q 0 S21 else Q 1 S21)) S)) else Q (-1) S)))))))))
def f_X10_of_32 (G : Gm) (v0 : Nat) (v1 : Int32) (v2 : Int32) (Q : Int32 → St → Prop) (S : St) : Prop :=
  (if v2 < 5 then f_X10_of_58 G v0 v1 v2 Q S else (if 9 ≤ v2 then f_X10_of_58 G v0 v1 v2 Q S else (∃ a3, S.2.2 v0 0 = some a3 ∧ f_X5_glassOf G a3 v1 (fun r5 S4 => f_X3_lensAt G r5 (v2 - 5) (fun r7 S6 => Q r7 S6) S4) S)))
def f_X10_of (G : Gm) (v0 : Nat) (v1 : Int32) (v2 : Int32) (Q : Int32 → St → Prop) (S : St) : Prop :=
  (∃ a1, S.2.2 v0 0 = some a1 ∧ f_X5_has G a1 v1 (fun r3 S2 => (if r3 = 0 then Q (-1) S2 else (if v2 < 0 then f_X10_of_32 G v0 v1 v2 Q S2 else (if 4 ≤ v2 then f_X10_of_32 G v0 v1 v2 Q S2 else (∃ a7, S2.2.2 v0 0 = some a7 ∧ f_X5_sinOf G a7 v1 v2 (fun r9 S8 => Q r9 S8) S2))))) S)
abbrev rm_X10_of : Room := { frames := 4, cells := 0, slots := 0, locals := 106 }
set_option maxHeartbeats 4000000 in
set_option maxRecDepth 100000 in
theorem j_X10_of_58 {p : Program} {l : Launch} {e : Env} {s : State} {m : MethodId} {args : Array Value} {below : List Frame} {meth : Method} {c : Code} {b : Nat} {D : va_G} {cy : Nat → ClassId} {G : Gm} {v0 : Nat} {v1 : Int32} {v2 : Int32} {S : St} {Q : Int32 → St → Prop} (C : CX p s m args meth c b D cy cX10_of RX10 3 (some .int)) (hE : s.heap.size + 0 ≤ b + G.2.2) (t_v0 : ok G 9 v0) (h : f_X10_of_58 G v0 v1 v2 Q S) : J p l e rm_X10_of s m args below meth c b D cy 3 (zI b D cy below args s G Q) 0 0 G S 58 [(0, .ref (b + v0)), (1, .int v1), (2, .int v2)] [] := by
  unfold f_X10_of_58 at h
  refine jB C [(.iload_n 2, 1, 0)] 59 [(0, .ref (b + v0)), (1, .int v1), (2, .int v2)] [.int v2] (by decide +kernel) rfl rfl ?_
  by_cases c24_0 : v2 = 4
  · have h := it1 h c24_0
    refine jTabIn C 108 4 (by decide +kernel : decode cX10_of 59 = .ok (.tableswitch 121 4 12 #[49, 121, 121, 121, 121, 61, 70, 91, 100], 49)) c24_0 ⟨rfl, rfl, rfl, rfl⟩ ?_
    refine jB C [(.aload_n 0, 1, 0)] 109 [(0, .ref (b + v0)), (1, .int v1), (2, .int v2)] [.ref (b + v0)] (by decide +kernel) rfl rfl ?_
    obtain ⟨a1, e_a1, h⟩ := h
    refine jGetR C 112 (by decide +kernel : decode cX10_of 109 = .ok (.getfield 14, 3)) rfl t_v0 kX10 0 (by decide) rfl rfl (by decide) wd_311 e_a1 rfl (fun t_a1 => ?_)
    refine jB C [(.iload_n 1, 1, 0)] 113 [(0, .ref (b + v0)), (1, .int v1), (2, .int v2)] [.int v1, .ref (b + a1)] (by decide +kernel) rfl rfl ?_
    refine jcVN_I C 116 (rest := []) (ok_X5_glassOf t_a1 h) (by decide +kernel : decode cX10_of 113 = .ok (.invokevirtual 100, 3)) rfl wn_400 wd_402 wp_9 wd_2 wd_403 ⟨rfl, rfl⟩ hd_X5_glassOf ⟨Nat.le_of_ble_eq_true rfl, Nat.le_of_ble_eq_true rfl⟩ t_a1 kX5 (by decide) rfl rfl rfl (Nat.le_of_ble_eq_true rfl) ⟨Nat.zero_le _, Nat.zero_le _⟩ (fun r3 S2 h => ?_)
    refine jcSN_I C 119 (rest := []) (ok_X3_lensesIn h) (by decide +kernel : decode cX10_of 116 = .ok (.invokestatic 108, 3)) rfl wn_410 wd_408 wd_13 wd_409 ⟨rfl, rfl⟩ hd_X3_lensesIn ⟨Nat.le_of_ble_eq_true rfl, Nat.le_of_ble_eq_true rfl⟩ rfl rfl (Nat.le_of_ble_eq_true rfl) ⟨Nat.zero_le _, Nat.zero_le _⟩ (fun r5 S4 h => ?_)
    exact jRetI C (by decide +kernel : decode cX10_of 119 = .ok (.ireturn, 1)) (Nat.le_refl _) (Nat.le_refl _) ⟨rfl, h⟩
  · have h := it2 h c24_0
    by_cases c24_1 : v2 = 5
    · have h := it1 h c24_1
      refine jTabIn C 180 5 (by decide +kernel : decode cX10_of 59 = .ok (.tableswitch 121 4 12 #[49, 121, 121, 121, 121, 61, 70, 91, 100], 49)) c24_1 ⟨rfl, rfl, rfl, rfl⟩ ?_
      refine jB C [(.iconst (-1), 1, (-1))] 181 [(0, .ref (b + v0)), (1, .int v1), (2, .int v2)] [.int (-1)] (by decide +kernel) rfl rfl ?_
      exact jRetI C (by decide +kernel : decode cX10_of 181 = .ok (.ireturn, 1)) (Nat.le_refl _) (Nat.le_refl _) ⟨rfl, h⟩
    · have h := it2 h c24_1
      by_cases c24_2 : v2 = 6
      · have h := it1 h c24_2
        refine jTabIn C 180 6 (by decide +kernel : decode cX10_of 59 = .ok (.tableswitch 121 4 12 #[49, 121, 121, 121, 121, 61, 70, 91, 100], 49)) c24_2 ⟨rfl, rfl, rfl, rfl⟩ ?_
        refine jB C [(.iconst (-1), 1, (-1))] 181 [(0, .ref (b + v0)), (1, .int v1), (2, .int v2)] [.int (-1)] (by decide +kernel) rfl rfl ?_
        exact jRetI C (by decide +kernel : decode cX10_of 181 = .ok (.ireturn, 1)) (Nat.le_refl _) (Nat.le_refl _) ⟨rfl, h⟩
      · have h := it2 h c24_2
        by_cases c24_3 : v2 = 7
        · have h := it1 h c24_3
          refine jTabIn C 180 7 (by decide +kernel : decode cX10_of 59 = .ok (.tableswitch 121 4 12 #[49, 121, 121, 121, 121, 61, 70, 91, 100], 49)) c24_3 ⟨rfl, rfl, rfl, rfl⟩ ?_
          refine jB C [(.iconst (-1), 1, (-1))] 181 [(0, .ref (b + v0)), (1, .int v1), (2, .int v2)] [.int (-1)] (by decide +kernel) rfl rfl ?_
          exact jRetI C (by decide +kernel : decode cX10_of 181 = .ok (.ireturn, 1)) (Nat.le_refl _) (Nat.le_refl _) ⟨rfl, h⟩
        · have h := it2 h c24_3
          by_cases c24_4 : v2 = 8
          · have h := it1 h c24_4
            refine jTabIn C 180 8 (by decide +kernel : decode cX10_of 59 = .ok (.tableswitch 121 4 12 #[49, 121, 121, 121, 121, 61, 70, 91, 100], 49)) c24_4 ⟨rfl, rfl, rfl, rfl⟩ ?_
            refine jB C [(.iconst (-1), 1, (-1))] 181 [(0, .ref (b + v0)), (1, .int v1), (2, .int v2)] [.int (-1)] (by decide +kernel) rfl rfl ?_
            exact jRetI C (by decide +kernel : decode cX10_of 181 = .ok (.ireturn, 1)) (Nat.le_refl _) (Nat.le_refl _) ⟨rfl, h⟩
          · have h := it2 h c24_4
            by_cases c24_5 : v2 = 9
            · have h := it1 h c24_5
              refine jTabIn C 120 9 (by decide +kernel : decode cX10_of 59 = .ok (.tableswitch 121 4 12 #[49, 121, 121, 121, 121, 61, 70, 91, 100], 49)) c24_5 ⟨rfl, rfl, rfl, rfl⟩ ?_
              refine jB C [(.aload_n 0, 1, 0)] 121 [(0, .ref (b + v0)), (1, .int v1), (2, .int v2)] [.ref (b + v0)] (by decide +kernel) rfl rfl ?_
              obtain ⟨a6, e_a6, h⟩ := h
              refine jGetR C 124 (by decide +kernel : decode cX10_of 121 = .ok (.getfield 14, 3)) rfl t_v0 kX10 0 (by decide) rfl rfl (by decide) wd_311 e_a6 rfl (fun t_a6 => ?_)
              refine jB C [(.iload_n 1, 1, 0)] 125 [(0, .ref (b + v0)), (1, .int v1), (2, .int v2)] [.int v1, .ref (b + a6)] (by decide +kernel) rfl rfl ?_
              refine jcVN_I C 128 (rest := []) (ok_X5_sightOf t_a6 h) (by decide +kernel : decode cX10_of 125 = .ok (.invokevirtual 111, 3)) rfl wn_411 wd_413 wp_10 wd_2 wd_414 ⟨rfl, rfl⟩ hd_X5_sightOf ⟨Nat.le_of_ble_eq_true rfl, Nat.le_of_ble_eq_true rfl⟩ t_a6 kX5 (by decide) rfl rfl rfl (Nat.le_of_ble_eq_true rfl) ⟨Nat.zero_le _, Nat.zero_le _⟩ (fun r8 S7 h => ?_)
              exact jRetI C (by decide +kernel : decode cX10_of 128 = .ok (.ireturn, 1)) (Nat.le_refl _) (Nat.le_refl _) ⟨rfl, h⟩
            · have h := it2 h c24_5
              by_cases c24_6 : v2 = 10
              · have h := it1 h c24_6
                refine jTabIn C 129 10 (by decide +kernel : decode cX10_of 59 = .ok (.tableswitch 121 4 12 #[49, 121, 121, 121, 121, 61, 70, 91, 100], 49)) c24_6 ⟨rfl, rfl, rfl, rfl⟩ ?_
                refine jB C [(.aload_n 0, 1, 0)] 130 [(0, .ref (b + v0)), (1, .int v1), (2, .int v2)] [.ref (b + v0)] (by decide +kernel) rfl rfl ?_
                obtain ⟨a9, e_a9, h⟩ := h
                refine jGetR C 133 (by decide +kernel : decode cX10_of 130 = .ok (.getfield 35, 3)) rfl t_v0 kX10 4 (by decide) rfl rfl (by decide) wd_315 e_a9 rfl (fun t_a9 => ?_)
                refine jB C [(.aload_n 0, 1, 0)] 134 [(0, .ref (b + v0)), (1, .int v1), (2, .int v2)] [.ref (b + v0), .ref (b + a9)] (by decide +kernel) rfl rfl ?_
                obtain ⟨a10, e_a10, h⟩ := h
                refine jGetR C 137 (by decide +kernel : decode cX10_of 134 = .ok (.getfield 14, 3)) rfl t_v0 kX10 0 (by decide) rfl rfl (by decide) wd_311 e_a10 rfl (fun t_a10 => ?_)
                refine jB C [(.iload_n 1, 1, 0), (.aload_n 0, 1, 0)] 139 [(0, .ref (b + v0)), (1, .int v1), (2, .int v2)] [.ref (b + v0), .int v1, .ref (b + a10), .ref (b + a9)] (by decide +kernel) rfl rfl ?_
                obtain ⟨a11, e_a11, h⟩ := h
                refine jGetR C 142 (by decide +kernel : decode cX10_of 139 = .ok (.getfield 14, 3)) rfl t_v0 kX10 0 (by decide) rfl rfl (by decide) wd_311 e_a11 rfl (fun t_a11 => ?_)
                refine jB C [(.iload_n 1, 1, 0)] 143 [(0, .ref (b + v0)), (1, .int v1), (2, .int v2)] [.int v1, .ref (b + a11), .int v1, .ref (b + a10), .ref (b + a9)] (by decide +kernel) rfl rfl ?_
                refine jcVN_I C 146 (rest := [.int v1, .ref (b + a10), .ref (b + a9)]) (ok_X5_sightOf t_a11 h) (by decide +kernel : decode cX10_of 143 = .ok (.invokevirtual 111, 3)) rfl wn_411 wd_413 wp_10 wd_2 wd_414 ⟨rfl, rfl⟩ hd_X5_sightOf ⟨Nat.le_of_ble_eq_true rfl, Nat.le_of_ble_eq_true rfl⟩ t_a11 kX5 (by decide) rfl rfl rfl (Nat.le_of_ble_eq_true rfl) ⟨Nat.zero_le _, Nat.zero_le _⟩ (fun r13 S12 h => ?_)
                refine jcVN_I C 149 (rest := []) (ok_X2_deed t_a9 t_a10 h) (by decide +kernel : decode cX10_of 146 = .ok (.invokevirtual 114, 3)) rfl wn_426 wd_428 wp_12 wd_4 wd_429 ⟨rfl, rfl⟩ hd_X2_deed ⟨Nat.le_of_ble_eq_true rfl, Nat.le_of_ble_eq_true rfl⟩ t_a9 kX2 (by decide) rfl rfl rfl (Nat.le_of_ble_eq_true rfl) ⟨Nat.zero_le _, Nat.zero_le _⟩ (fun r15 S14 h => ?_)
                exact jRetI C (by decide +kernel : decode cX10_of 149 = .ok (.ireturn, 1)) (Nat.le_refl _) (Nat.le_refl _) ⟨rfl, h⟩
              · have h := it2 h c24_6
                by_cases c24_7 : v2 = 11
                · have h := it1 h c24_7
                  refine jTabIn C 150 11 (by decide +kernel : decode cX10_of 59 = .ok (.tableswitch 121 4 12 #[49, 121, 121, 121, 121, 61, 70, 91, 100], 49)) c24_7 ⟨rfl, rfl, rfl, rfl⟩ ?_
                  refine jB C [(.aload_n 0, 1, 0)] 151 [(0, .ref (b + v0)), (1, .int v1), (2, .int v2)] [.ref (b + v0)] (by decide +kernel) rfl rfl ?_
                  obtain ⟨a16, e_a16, h⟩ := h
                  refine jGetR C 154 (by decide +kernel : decode cX10_of 151 = .ok (.getfield 14, 3)) rfl t_v0 kX10 0 (by decide) rfl rfl (by decide) wd_311 e_a16 rfl (fun t_a16 => ?_)
                  refine jB C [(.iload_n 1, 1, 0)] 155 [(0, .ref (b + v0)), (1, .int v1), (2, .int v2)] [.int v1, .ref (b + a16)] (by decide +kernel) rfl rfl ?_
                  refine jcVN_I C 158 (rest := []) (ok_X5_wantedOf t_a16 h) (by decide +kernel : decode cX10_of 155 = .ok (.invokevirtual 118, 3)) rfl wn_485 wd_487 wp_22 wd_2 wd_488 ⟨rfl, rfl⟩ hd_X5_wantedOf ⟨Nat.le_of_ble_eq_true rfl, Nat.le_of_ble_eq_true rfl⟩ t_a16 kX5 (by decide) rfl rfl rfl (Nat.le_of_ble_eq_true rfl) ⟨Nat.zero_le _, Nat.zero_le _⟩ (fun r18 S17 h => ?_)
                  exact jRetI C (by decide +kernel : decode cX10_of 158 = .ok (.ireturn, 1)) (Nat.le_refl _) (Nat.le_refl _) ⟨rfl, h⟩
                · have h := it2 h c24_7
                  by_cases c24_8 : v2 = 12
                  · have h := it1 h c24_8
                    refine jTabIn C 159 12 (by decide +kernel : decode cX10_of 59 = .ok (.tableswitch 121 4 12 #[49, 121, 121, 121, 121, 61, 70, 91, 100], 49)) c24_8 ⟨rfl, rfl, rfl, rfl⟩ ?_
                    refine jB C [(.aload_n 0, 1, 0)] 160 [(0, .ref (b + v0)), (1, .int v1), (2, .int v2)] [.ref (b + v0)] (by decide +kernel) rfl rfl ?_
                    obtain ⟨a19, e_a19, h⟩ := h
                    refine jGetR C 163 (by decide +kernel : decode cX10_of 160 = .ok (.getfield 35, 3)) rfl t_v0 kX10 4 (by decide) rfl rfl (by decide) wd_315 e_a19 rfl (fun t_a19 => ?_)
                    refine jB C [(.aload_n 0, 1, 0)] 164 [(0, .ref (b + v0)), (1, .int v1), (2, .int v2)] [.ref (b + v0), .ref (b + a19)] (by decide +kernel) rfl rfl ?_
                    obtain ⟨a20, e_a20, h⟩ := h
                    refine jGetR C 167 (by decide +kernel : decode cX10_of 164 = .ok (.getfield 14, 3)) rfl t_v0 kX10 0 (by decide) rfl rfl (by decide) wd_311 e_a20 rfl (fun t_a20 => ?_)
                    refine jB C [(.iload_n 1, 1, 0)] 168 [(0, .ref (b + v0)), (1, .int v1), (2, .int v2)] [.int v1, .ref (b + a20), .ref (b + a19)] (by decide +kernel) rfl rfl ?_
                    refine jcVN_I C 171 (rest := []) (ok_X2_bars t_a19 t_a20 h) (by decide +kernel : decode cX10_of 168 = .ok (.invokevirtual 121, 3)) rfl wn_489 wd_491 wp_23 wd_4 wd_492 ⟨rfl, rfl⟩ hd_X2_bars ⟨Nat.le_of_ble_eq_true rfl, Nat.le_of_ble_eq_true rfl⟩ t_a19 kX2 (by decide) rfl rfl rfl (Nat.le_of_ble_eq_true rfl) ⟨Nat.zero_le _, Nat.zero_le _⟩ (fun r22 S21 h => ?_)
                    refine jIf_eq C 174 178 (by decide +kernel : decode cX10_of 171 = .ok (.ifCond .eq 7, 3)) rfl rfl (fun c23 => ?_) (fun c23 => ?_)
                    · have h := it1 h c23
                      refine jB C [(.iconst 0, 1, 0)] 179 [(0, .ref (b + v0)), (1, .int v1), (2, .int v2)] [.int 0] (by decide +kernel) rfl rfl ?_
                      exact jRetI C (by decide +kernel : decode cX10_of 179 = .ok (.ireturn, 1)) (Nat.le_refl _) (Nat.le_refl _) ⟨rfl, h⟩
                    · have h := it2 h c23
                      refine jB C [(.iconst 1, 1, 1)] 175 [(0, .ref (b + v0)), (1, .int v1), (2, .int v2)] [.int 1] (by decide +kernel) rfl rfl ?_
                      refine jGoto C 179 (by decide +kernel : decode cX10_of 175 = .ok (.goto 4, 3)) rfl ?_
                      exact jRetI C (by decide +kernel : decode cX10_of 179 = .ok (.ireturn, 1)) (Nat.le_refl _) (Nat.le_refl _) ⟨rfl, h⟩
                  · have h := it2 h c24_8
                    refine jTabOut C 180 (by decide +kernel : decode cX10_of 59 = .ok (.tableswitch 121 4 12 #[49, 121, 121, 121, 121, 61, 70, 91, 100], 49)) rfl (by have := lv_neT c24_0 (a := 4) rfl; have := lv_neT c24_1 (a := 5) rfl; have := lv_neT c24_2 (a := 6) rfl; have := lv_neT c24_3 (a := 7) rfl; have := lv_neT c24_4 (a := 8) rfl; have := lv_neT c24_5 (a := 9) rfl; have := lv_neT c24_6 (a := 10) rfl; have := lv_neT c24_7 (a := 11) rfl; have := lv_neT c24_8 (a := 12) rfl; omega) ?_
                    refine jB C [(.iconst (-1), 1, (-1))] 181 [(0, .ref (b + v0)), (1, .int v1), (2, .int v2)] [.int (-1)] (by decide +kernel) rfl rfl ?_
                    exact jRetI C (by decide +kernel : decode cX10_of 181 = .ok (.ireturn, 1)) (Nat.le_refl _) (Nat.le_refl _) ⟨rfl, h⟩
set_option maxHeartbeats 4000000 in
set_option maxRecDepth 100000 in
theorem j_X10_of_32 {p : Program} {l : Launch} {e : Env} {s : State} {m : MethodId} {args : Array Value} {below : List Frame} {meth : Method} {c : Code} {b : Nat} {D : va_G} {cy : Nat → ClassId} {G : Gm} {v0 : Nat} {v1 : Int32} {v2 : Int32} {S : St} {Q : Int32 → St → Prop} (C : CX p s m args meth c b D cy cX10_of RX10 3 (some .int)) (hE : s.heap.size + 0 ≤ b + G.2.2) (t_v0 : ok G 9 v0) (h : f_X10_of_32 G v0 v1 v2 Q S) : J p l e rm_X10_of s m args below meth c b D cy 3 (zI b D cy below args s G Q) 0 0 G S 32 [(0, .ref (b + v0)), (1, .int v1), (2, .int v2)] [] := by
  unfold f_X10_of_32 at h
  refine jB C [(.iload_n 2, 1, 0), (.iconst 5, 1, 5)] 34 [(0, .ref (b + v0)), (1, .int v1), (2, .int v2)] [.int 5, .int v2] (by decide +kernel) rfl rfl ?_
  refine jIcmp_lt C 37 58 (by decide +kernel : decode cX10_of 34 = .ok (.if_icmp .lt 24, 3)) rfl rfl (fun c1 => ?_) (fun c1 => ?_)
  · have h := it1 h c1
    refine jSub [0, 1, 2] rfl ?_
    exact j_X10_of_58 C hE t_v0 h
  · have h := it2 h c1
    refine jB C [(.iload_n 2, 1, 0), (.bipush 9, 2, 9)] 40 [(0, .ref (b + v0)), (1, .int v1), (2, .int v2)] [.int 9, .int v2] (by decide +kernel) rfl rfl ?_
    refine jIcmp_ge C 43 58 (by decide +kernel : decode cX10_of 40 = .ok (.if_icmp .ge 18, 3)) rfl rfl (fun c2 => ?_) (fun c2 => ?_)
    · have h := it1 h c2
      refine jSub [0, 1, 2] rfl ?_
      exact j_X10_of_58 C hE t_v0 h
    · have h := it2 h c2
      refine jB C [(.aload_n 0, 1, 0)] 44 [(0, .ref (b + v0)), (1, .int v1), (2, .int v2)] [.ref (b + v0)] (by decide +kernel) rfl rfl ?_
      obtain ⟨a3, e_a3, h⟩ := h
      refine jGetR C 47 (by decide +kernel : decode cX10_of 44 = .ok (.getfield 14, 3)) rfl t_v0 kX10 0 (by decide) rfl rfl (by decide) wd_311 e_a3 rfl (fun t_a3 => ?_)
      refine jB C [(.iload_n 1, 1, 0)] 48 [(0, .ref (b + v0)), (1, .int v1), (2, .int v2)] [.int v1, .ref (b + a3)] (by decide +kernel) rfl rfl ?_
      refine jcVN_I C 51 (rest := []) (ok_X5_glassOf t_a3 h) (by decide +kernel : decode cX10_of 48 = .ok (.invokevirtual 100, 3)) rfl wn_400 wd_402 wp_9 wd_2 wd_403 ⟨rfl, rfl⟩ hd_X5_glassOf ⟨Nat.le_of_ble_eq_true rfl, Nat.le_of_ble_eq_true rfl⟩ t_a3 kX5 (by decide) rfl rfl rfl (Nat.le_of_ble_eq_true rfl) ⟨Nat.zero_le _, Nat.zero_le _⟩ (fun r5 S4 h => ?_)
      refine jB C [(.iload_n 2, 1, 0), (.iconst 5, 1, 5), (.isub, 1, 0)] 54 [(0, .ref (b + v0)), (1, .int v1), (2, .int v2)] [.int (v2 - 5), .int r5] (by decide +kernel) rfl rfl ?_
      refine jcSN_I C 57 (rest := []) (ok_X3_lensAt h) (by decide +kernel : decode cX10_of 54 = .ok (.invokestatic 103, 3)) rfl wn_404 wd_405 wd_13 wd_406 ⟨rfl, rfl⟩ hd_X3_lensAt ⟨Nat.le_of_ble_eq_true rfl, Nat.le_of_ble_eq_true rfl⟩ rfl rfl (Nat.le_of_ble_eq_true rfl) ⟨Nat.zero_le _, Nat.zero_le _⟩ (fun r7 S6 h => ?_)
      exact jRetI C (by decide +kernel : decode cX10_of 57 = .ok (.ireturn, 1)) (Nat.le_refl _) (Nat.le_refl _) ⟨rfl, h⟩
set_option maxHeartbeats 4000000 in
set_option maxRecDepth 100000 in
theorem j_X10_of {p : Program} {l : Launch} {e : Env} {s : State} {m : MethodId} {args : Array Value} {below : List Frame} {meth : Method} {c : Code} {b : Nat} {D : va_G} {cy : Nat → ClassId} {G : Gm} {v0 : Nat} {v1 : Int32} {v2 : Int32} {S : St} {Q : Int32 → St → Prop} (C : CX p s m args meth c b D cy cX10_of RX10 3 (some .int)) (hE : s.heap.size + 0 ≤ b + G.2.2) (t_v0 : ok G 9 v0) (h : f_X10_of G v0 v1 v2 Q S) : J p l e rm_X10_of s m args below meth c b D cy 3 (zI b D cy below args s G Q) 0 0 G S 0 [(0, .ref (b + v0)), (1, .int v1), (2, .int v2)] [] := by
  unfold f_X10_of at h
  refine jB C [(.aload_n 0, 1, 0)] 1 [(0, .ref (b + v0)), (1, .int v1), (2, .int v2)] [.ref (b + v0)] (by decide +kernel) rfl rfl ?_
  obtain ⟨a1, e_a1, h⟩ := h
  refine jGetR C 4 (by decide +kernel : decode cX10_of 1 = .ok (.getfield 14, 3)) rfl t_v0 kX10 0 (by decide) rfl rfl (by decide) wd_311 e_a1 rfl (fun t_a1 => ?_)
  refine jB C [(.iload_n 1, 1, 0)] 5 [(0, .ref (b + v0)), (1, .int v1), (2, .int v2)] [.int v1, .ref (b + a1)] (by decide +kernel) rfl rfl ?_
  refine jcVN_I C 8 (rest := []) (ok_X5_has t_a1 h) (by decide +kernel : decode cX10_of 5 = .ok (.invokevirtual 92, 3)) rfl wn_395 wd_373 wp_4 wd_2 wd_374 ⟨rfl, rfl⟩ hd_X5_has ⟨Nat.le_of_ble_eq_true rfl, Nat.le_of_ble_eq_true rfl⟩ t_a1 kX5 (by decide) rfl rfl rfl (Nat.le_of_ble_eq_true rfl) ⟨Nat.zero_le _, Nat.zero_le _⟩ (fun r3 S2 h => ?_)
  refine jIf_ne C 11 13 (by decide +kernel : decode cX10_of 8 = .ok (.ifCond .ne 5, 3)) rfl rfl (fun c4 => ?_) (fun c4 => ?_)
  · have h := it2 h c4
    refine jB C [(.iload_n 2, 1, 0)] 14 [(0, .ref (b + v0)), (1, .int v1), (2, .int v2)] [.int v2] (by decide +kernel) rfl rfl ?_
    refine jIf_lt C 17 32 (by decide +kernel : decode cX10_of 14 = .ok (.ifCond .lt 18, 3)) rfl rfl (fun c5 => ?_) (fun c5 => ?_)
    · have h := it1 h c5
      refine jSub [0, 1, 2] rfl ?_
      exact j_X10_of_32 C hE t_v0 h
    · have h := it2 h c5
      refine jB C [(.iload_n 2, 1, 0), (.iconst 4, 1, 4)] 19 [(0, .ref (b + v0)), (1, .int v1), (2, .int v2)] [.int 4, .int v2] (by decide +kernel) rfl rfl ?_
      refine jIcmp_ge C 22 32 (by decide +kernel : decode cX10_of 19 = .ok (.if_icmp .ge 13, 3)) rfl rfl (fun c6 => ?_) (fun c6 => ?_)
      · have h := it1 h c6
        refine jSub [0, 1, 2] rfl ?_
        exact j_X10_of_32 C hE t_v0 h
      · have h := it2 h c6
        refine jB C [(.aload_n 0, 1, 0)] 23 [(0, .ref (b + v0)), (1, .int v1), (2, .int v2)] [.ref (b + v0)] (by decide +kernel) rfl rfl ?_
        obtain ⟨a7, e_a7, h⟩ := h
        refine jGetR C 26 (by decide +kernel : decode cX10_of 23 = .ok (.getfield 14, 3)) rfl t_v0 kX10 0 (by decide) rfl rfl (by decide) wd_311 e_a7 rfl (fun t_a7 => ?_)
        refine jB C [(.iload_n 1, 1, 0), (.iload_n 2, 1, 0)] 28 [(0, .ref (b + v0)), (1, .int v1), (2, .int v2)] [.int v2, .int v1, .ref (b + a7)] (by decide +kernel) rfl rfl ?_
        refine jcVN_I C 31 (rest := []) (ok_X5_sinOf t_a7 h) (by decide +kernel : decode cX10_of 28 = .ok (.invokevirtual 96, 3)) rfl wn_396 wd_398 wp_8 wd_2 wd_399 ⟨rfl, rfl⟩ hd_X5_sinOf ⟨Nat.le_of_ble_eq_true rfl, Nat.le_of_ble_eq_true rfl⟩ t_a7 kX5 (by decide) rfl rfl rfl (Nat.le_of_ble_eq_true rfl) ⟨Nat.zero_le _, Nat.zero_le _⟩ (fun r9 S8 h => ?_)
        exact jRetI C (by decide +kernel : decode cX10_of 31 = .ok (.ireturn, 1)) (Nat.le_refl _) (Nat.le_refl _) ⟨rfl, h⟩
  · have h := it1 h c4
    refine jB C [(.iconst (-1), 1, (-1))] 12 [(0, .ref (b + v0)), (1, .int v1), (2, .int v2)] [.int (-1)] (by decide +kernel) rfl rfl ?_
    exact jRetI C (by decide +kernel : decode cX10_of 12 = .ok (.ireturn, 1)) (Nat.le_refl _) (Nat.le_refl _) ⟨rfl, h⟩
theorem ok_X10_of {G : Gm} {v0 : Nat} {v1 : Int32} {v2 : Int32} {S : St} {Q : Int32 → St → Prop} (t_v0 : ok G 9 v0) (h : f_X10_of G v0 v1 v2 Q S) : MT yX10_of cX10_of 3 (some .int) rm_X10_of 0 0 (fun b => [.ref (b + v0), .int v1, .int v2]) G S (QI (fun r G1 S1 => G1 = G ∧ Q r S1)) := MT.ofJ (by decide) (fun b => [(0, .ref (b + v0)), (1, .int v1), (2, .int v2)]) (fun b => rfl) (fun b => Nat.le_of_ble_eq_true rfl) (fun l b D cy p e s m below meth c C hE hn => j_X10_of C hE t_v0 h)
theorem hd_X10_of : yX10_of.cls ≠ "java/lang/invoke/MethodHandle" ∧ yX10_of.cls ≠ "java/lang/invoke/VarHandle" ∧ (parseMethodDescriptor yX10_of.desc).map (fun d => d.parameters.length) = some 2 := by decide +kernel
