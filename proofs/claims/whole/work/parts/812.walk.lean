abbrev rm_X11_must : Room := { frames := 2, cells := 0, slots := 0, locals := 40 }
set_option maxHeartbeats 4000000 in
set_option maxRecDepth 100000 in
theorem j_X11_must_24 {p : Program} {l : Launch} {e : Env} {s : State} {m : MethodId} {args : Array Value} {below : List Frame} {meth : Method} {c : Code} {b : Nat} {D : va_G} {cy : Nat → ClassId} {G : Gm} {v0 : Nat} {S : St} {Q : St → Prop} (C : CX p s m args meth c b D cy cX11_must RX11 2 none) (hE : s.heap.size + 0 ≤ b + G.2.2) (t_v0 : ok G 10 v0) (h : f_X11_must_24 G v0 Q S) : J p l e rm_X11_must s m args below meth c b D cy 2 (zV b D cy below args s G Q) 0 0 G S 24 [(0, .ref (b + v0))] [] := by
  unfold f_X11_must_24 at h
  refine jB C [(.aload_n 0, 1, 0)] 25 [(0, .ref (b + v0))] [.ref (b + v0)] (by decide +kernel) rfl rfl ?_
  refine jGetI C 28 (by decide +kernel : decode cX11_must 25 = .ok (.getfield 271, 3)) rfl t_v0 kX11 20 (by decide) rfl rfl (by decide) wd_1174 ?_
  refine jIf_ne C 31 35 (by decide +kernel : decode cX11_must 28 = .ok (.ifCond .ne 7, 3)) rfl rfl (fun c1 => ?_) (fun c1 => ?_)
  · have h := it2 h c1
    exact jRetV C (by decide +kernel : decode cX11_must 35 = .ok (.return_, 1)) (Nat.le_refl _) (Nat.le_refl _) ⟨rfl, h⟩
  · have h := it1 h c1
    refine jB C [(.aload_n 0, 1, 0)] 32 [(0, .ref (b + v0))] [.ref (b + v0)] (by decide +kernel) rfl rfl ?_
    refine jcV_V C 35 (rest := []) (ok_X11_next t_v0 h) (by decide +kernel : decode cX11_must 32 = .ok (.invokevirtual 275, 3)) rfl wd_1524 wd_1526 wp_121 wd_12 wd_1527 ⟨rfl, rfl⟩ hd_X11_next ⟨Nat.le_of_ble_eq_true rfl, Nat.le_of_ble_eq_true rfl⟩ t_v0 kX11 (by decide) rfl rfl rfl (Nat.le_of_ble_eq_true rfl) ⟨Nat.zero_le _, Nat.zero_le _⟩ (fun S2 h => ?_)
    exact jRetV C (by decide +kernel : decode cX11_must 35 = .ok (.return_, 1)) (Nat.le_refl _) (Nat.le_refl _) ⟨rfl, h⟩
set_option maxHeartbeats 4000000 in
set_option maxRecDepth 100000 in
theorem j_X11_must {p : Program} {l : Launch} {e : Env} {s : State} {m : MethodId} {args : Array Value} {below : List Frame} {meth : Method} {c : Code} {b : Nat} {D : va_G} {cy : Nat → ClassId} {G : Gm} {v0 : Nat} {v1 : Int32} {S : St} {Q : St → Prop} (C : CX p s m args meth c b D cy cX11_must RX11 2 none) (hE : s.heap.size + 0 ≤ b + G.2.2) (t_v0 : ok G 10 v0) (h : f_X11_must G v0 v1 Q S) : J p l e rm_X11_must s m args below meth c b D cy 2 (zV b D cy below args s G Q) 0 0 G S 0 [(0, .ref (b + v0)), (1, .int v1)] [] := by
  unfold f_X11_must at h
  refine jB C [(.aload_n 0, 1, 0)] 1 [(0, .ref (b + v0)), (1, .int v1)] [.ref (b + v0)] (by decide +kernel) rfl rfl ?_
  refine jGetI C 4 (by decide +kernel : decode cX11_must 1 = .ok (.getfield 271, 3)) rfl t_v0 kX11 20 (by decide) rfl rfl (by decide) wd_1174 ?_
  refine jIf_ne C 7 24 (by decide +kernel : decode cX11_must 4 = .ok (.ifCond .ne 20, 3)) rfl rfl (fun c1 => ?_) (fun c1 => ?_)
  · have h := it2 h c1
    refine jSub [0] rfl ?_
    exact j_X11_must_24 C hE t_v0 h
  · have h := it1 h c1
    refine jB C [(.iload_n 1, 1, 0)] 8 [(0, .ref (b + v0)), (1, .int v1)] [.int v1] (by decide +kernel) rfl rfl ?_
    refine jIf_ne C 11 24 (by decide +kernel : decode cX11_must 8 = .ok (.ifCond .ne 16, 3)) rfl rfl (fun c2 => ?_) (fun c2 => ?_)
    · have h := it2 h c2
      refine jSub [0] rfl ?_
      exact j_X11_must_24 C hE t_v0 h
    · have h := it1 h c2
      refine jB C [(.aload_n 0, 1, 0), (.iconst 1, 1, 1)] 13 [(0, .ref (b + v0)), (1, .int v1)] [.int 1, .ref (b + v0)] (by decide +kernel) rfl rfl ?_
      refine jPutI C 16 (by decide +kernel : decode cX11_must 13 = .ok (.putfield 271, 3)) rfl hE t_v0 kX11 20 (by decide) rfl rfl (by decide) rfl wd_1174 rfl (by decide) (by decide) ?_
      refine jTopS (fun S3 e_S3 => ?_)
      have h := h S3 e_S3
      refine jB C [(.aload_n 0, 1, 0), (.aload_n 0, 1, 0)] 18 [(0, .ref (b + v0)), (1, .int v1)] [.ref (b + v0), .ref (b + v0)] (by decide +kernel) rfl rfl ?_
      refine jGetI C 21 (by decide +kernel : decode cX11_must 18 = .ok (.getfield 278, 3)) rfl t_v0 kX11 15 (by decide) rfl rfl (by decide) wd_1169 ?_
      refine jPutI C 24 (by decide +kernel : decode cX11_must 21 = .ok (.putfield 41, 3)) rfl hE t_v0 kX11 19 (by decide) rfl rfl (by decide) rfl wd_1173 rfl rfl rfl ?_
      refine jTopS (fun S4 e_S4 => ?_)
      have h := h S4 e_S4
      refine jSub [0] rfl ?_
      exact j_X11_must_24 C hE t_v0 h
theorem ok_X11_must {G : Gm} {v0 : Nat} {v1 : Int32} {S : St} {Q : St → Prop}  (t_v0 : ok G 10 v0) (h : f_X11_must G v0 v1 Q S) : MT yX11_must cX11_must 2 none rm_X11_must 0 0 (fun b => [.ref (b + v0), .int v1]) G S (QV (fun G1 S1 => G1 = G ∧ Q S1)) := MT.ofJ (by decide +kernel) (fun b => [(0, .ref (b + v0)), (1, .int v1)]) (fun b => rfl) (fun b => Nat.le_of_ble_eq_true rfl) (fun l b D cy p e s m below meth c C hE hn => j_X11_must C hE t_v0 h)
theorem hd_X11_must : yX11_must.cls ≠ "java/lang/invoke/MethodHandle" ∧ yX11_must.cls ≠ "java/lang/invoke/VarHandle" ∧ (parseMethodDescriptor yX11_must.desc).map (fun d => d.parameters.length) = some 1 := by decide +kernel
abbrev rm_X11_isCompared : Room := { frames := 1, cells := 0, slots := 0, locals := 25 }
set_option maxHeartbeats 4000000 in
set_option maxRecDepth 100000 in
theorem j_X11_isCompared_36 {p : Program} {l : Launch} {e : Env} {s : State} {m : MethodId} {args : Array Value} {below : List Frame} {meth : Method} {c : Code} {b : Nat} {D : va_G} {cy : Nat → ClassId} {G : Gm} {v0 : Nat} {v1 : Int32} {S : St} {Q : Int32 → St → Prop} (C : CX p s m args meth c b D cy cX11_isCompared RX11 2 (some .boolean)) (hE : s.heap.size + 0 ≤ b + G.2.2) (t_v0 : ok G 10 v0) (h : f_X11_isCompared_36 G v0 v1 Q S) : J p l e rm_X11_isCompared s m args below meth c b D cy 2 (zI b D cy below args s G Q) 0 0 G S 36 [(0, .ref (b + v0)), (1, .int v1)] [] := by
  unfold f_X11_isCompared_36 at h
  refine jB C [(.iload_n 1, 1, 0)] 37 [(0, .ref (b + v0)), (1, .int v1)] [.int v1] (by decide +kernel) rfl rfl ?_
  refine jIf_lt C 40 63 (by decide +kernel : decode cX11_isCompared 37 = .ok (.ifCond .lt 26, 3)) rfl rfl (fun c1 => ?_) (fun c1 => ?_)
  · have h := it1 h c1
    refine jB C [(.iconst 0, 1, 0)] 64 [(0, .ref (b + v0)), (1, .int v1)] [.int 0] (by decide +kernel) rfl rfl ?_
    exact jRetZ C (by decide +kernel : decode cX11_isCompared 64 = .ok (.ireturn, 1)) (Nat.le_refl _) (Nat.le_refl _) (by decide) ⟨rfl, h⟩
  · have h := it2 h c1
    refine jB C [(.aload_n 0, 1, 0)] 41 [(0, .ref (b + v0)), (1, .int v1)] [.ref (b + v0)] (by decide +kernel) rfl rfl ?_
    obtain ⟨a2, e_a2, h⟩ := h
    refine jGetR C 44 (by decide +kernel : decode cX11_isCompared 41 = .ok (.getfield 54, 3)) rfl t_v0 kX11 28 (by decide) rfl rfl (by decide) wd_1182 e_a2 rfl (fun t_a2 => ?_)
    refine jB C [(.iload_n 1, 1, 0)] 45 [(0, .ref (b + v0)), (1, .int v1)] [.int v1, .ref (b + a2)] (by decide +kernel) rfl rfl ?_
    obtain ⟨y3, h⟩ := h
    refine jIald C 46 (by decide +kernel : decode cX11_isCompared 45 = .ok (.iaload, 1)) rfl t_a2 y3 ?_
    refine jB C [(.i2l, 1, 0)] 47 [(0, .ref (b + v0)), (1, .int v1)] [.long ((S.1 a2 v1.toNatClampNeg).toInt64)] (by decide +kernel) rfl rfl ?_
    refine jLdc2 C 50 (by decide +kernel : decode cX11_isCompared 47 = .ok (.ldc2_w 324, 3)) rfl wd_1617 ?_
    refine jLdc2 C 53 (by decide +kernel : decode cX11_isCompared 50 = .ok (.ldc2_w 326, 3)) rfl wd_1618 ?_
    refine jcS_I C 56 (rest := []) (ok_X11_in h) (by decide +kernel : decode cX11_isCompared 53 = .ok (.invokestatic 185, 3)) rfl wd_1352 wd_1353 wd_12 wd_1354 ⟨rfl, rfl⟩ hd_X11_in ⟨Nat.le_of_ble_eq_true rfl, Nat.le_of_ble_eq_true rfl⟩ rfl rfl (Nat.le_of_ble_eq_true rfl) ⟨Nat.zero_le _, Nat.zero_le _⟩ (fun r5 S4 h => ?_)
    refine jIf_eq C 59 63 (by decide +kernel : decode cX11_isCompared 56 = .ok (.ifCond .eq 7, 3)) rfl rfl (fun c6 => ?_) (fun c6 => ?_)
    · have h := it1 h c6
      refine jB C [(.iconst 0, 1, 0)] 64 [(0, .ref (b + v0)), (1, .int v1)] [.int 0] (by decide +kernel) rfl rfl ?_
      exact jRetZ C (by decide +kernel : decode cX11_isCompared 64 = .ok (.ireturn, 1)) (Nat.le_refl _) (Nat.le_refl _) (by decide) ⟨rfl, h⟩
    · have h := it2 h c6
      refine jB C [(.iconst 1, 1, 1)] 60 [(0, .ref (b + v0)), (1, .int v1)] [.int 1] (by decide +kernel) rfl rfl ?_
      refine jGoto C 64 (by decide +kernel : decode cX11_isCompared 60 = .ok (.goto 4, 3)) rfl ?_
      exact jRetZ C (by decide +kernel : decode cX11_isCompared 64 = .ok (.ireturn, 1)) (Nat.le_refl _) (Nat.le_refl _) (by decide) ⟨rfl, h⟩
set_option maxHeartbeats 4000000 in
set_option maxRecDepth 100000 in
theorem j_X11_isCompared_7_n {p : Program} {l : Launch} {e : Env} {s : State} {m : MethodId} {args : Array Value} {below : List Frame} {meth : Method} {c : Code} {b : Nat} {D : va_G} {cy : Nat → ClassId} {G : Gm} {v0 : Nat} {Q : Int32 → St → Prop} (C : CX p s m args meth c b D cy cX11_isCompared RX11 2 (some .boolean)) (hE : s.heap.size + 0 ≤ b + G.2.2) (t_v0 : ok G 10 v0) : ∀ k (v1 : Int32) S, f_X11_isCompared_7_n G v0 Q k v1 S → J p l e rm_X11_isCompared s m args below meth c b D cy 2 (zI b D cy below args s G Q) 0 0 G S 7 [(0, .ref (b + v0)), (1, .int v1)] [] := by
  intro k
  induction k with
  | zero => intro v1 S h; exact h.elim
  | succ k ih =>
    intro v1 S h
    unfold f_X11_isCompared_7_n at h
    refine jB C [(.iload_n 1, 1, 0)] 8 [(0, .ref (b + v0)), (1, .int v1)] [.int v1] (by decide +kernel) rfl rfl ?_
    refine jIf_lt C 11 36 (by decide +kernel : decode cX11_isCompared 8 = .ok (.ifCond .lt 28, 3)) rfl rfl (fun c1 => ?_) (fun c1 => ?_)
    · have h := it1 h c1
      refine jSub [0, 1] rfl ?_
      exact j_X11_isCompared_36 C hE t_v0 h
    · have h := it2 h c1
      refine jB C [(.aload_n 0, 1, 0)] 12 [(0, .ref (b + v0)), (1, .int v1)] [.ref (b + v0)] (by decide +kernel) rfl rfl ?_
      obtain ⟨a2, e_a2, h⟩ := h
      refine jGetR C 15 (by decide +kernel : decode cX11_isCompared 12 = .ok (.getfield 54, 3)) rfl t_v0 kX11 28 (by decide) rfl rfl (by decide) wd_1182 e_a2 rfl (fun t_a2 => ?_)
      refine jB C [(.iload_n 1, 1, 0)] 16 [(0, .ref (b + v0)), (1, .int v1)] [.int v1, .ref (b + a2)] (by decide +kernel) rfl rfl ?_
      obtain ⟨y3, h⟩ := h
      refine jIald C 17 (by decide +kernel : decode cX11_isCompared 16 = .ok (.iaload, 1)) rfl t_a2 y3 ?_
      refine jB C [(.i2l, 1, 0)] 18 [(0, .ref (b + v0)), (1, .int v1)] [.long ((S.1 a2 v1.toNatClampNeg).toInt64)] (by decide +kernel) rfl rfl ?_
      refine jLdc2 C 21 (by decide +kernel : decode cX11_isCompared 18 = .ok (.ldc2_w 320, 3)) rfl wd_1615 ?_
      refine jLdc2 C 24 (by decide +kernel : decode cX11_isCompared 21 = .ok (.ldc2_w 322, 3)) rfl wd_1616 ?_
      refine jcS_I C 27 (rest := []) (ok_X11_in h) (by decide +kernel : decode cX11_isCompared 24 = .ok (.invokestatic 185, 3)) rfl wd_1352 wd_1353 wd_12 wd_1354 ⟨rfl, rfl⟩ hd_X11_in ⟨Nat.le_of_ble_eq_true rfl, Nat.le_of_ble_eq_true rfl⟩ rfl rfl (Nat.le_of_ble_eq_true rfl) ⟨Nat.zero_le _, Nat.zero_le _⟩ (fun r5 S4 h => ?_)
      refine jIf_eq C 30 36 (by decide +kernel : decode cX11_isCompared 27 = .ok (.ifCond .eq 9, 3)) rfl rfl (fun c6 => ?_) (fun c6 => ?_)
      · have h := it1 h c6
        refine jSub [0, 1] rfl ?_
        exact j_X11_isCompared_36 C hE t_v0 h
      · have h := it2 h c6
        refine jB C [(.iinc 1 (-1), 3, (-1))] 33 [(1, .int (v1 + (-1))), (0, .ref (b + v0))] [] (by decide +kernel) rfl rfl ?_
        refine jGoto C 7 (by decide +kernel : decode cX11_isCompared 33 = .ok (.goto (-26), 3)) rfl ?_
        refine jSub [1, 0] rfl ?_
        exact ih (v1 + (-1)) S4 h
theorem j_X11_isCompared_7 {p : Program} {l : Launch} {e : Env} {s : State} {m : MethodId} {args : Array Value} {below : List Frame} {meth : Method} {c : Code} {b : Nat} {D : va_G} {cy : Nat → ClassId} {G : Gm} {v0 : Nat} {v1 : Int32} {S : St} {Q : Int32 → St → Prop} (C : CX p s m args meth c b D cy cX11_isCompared RX11 2 (some .boolean)) (hE : s.heap.size + 0 ≤ b + G.2.2) (t_v0 : ok G 10 v0) (h : f_X11_isCompared_7 G v0 Q v1 S) : J p l e rm_X11_isCompared s m args below meth c b D cy 2 (zI b D cy below args s G Q) 0 0 G S 7 [(0, .ref (b + v0)), (1, .int v1)] [] := by
  obtain ⟨k, h⟩ := h
  exact j_X11_isCompared_7_n C hE t_v0 k v1 S h
set_option maxHeartbeats 4000000 in
set_option maxRecDepth 100000 in
theorem j_X11_isCompared {p : Program} {l : Launch} {e : Env} {s : State} {m : MethodId} {args : Array Value} {below : List Frame} {meth : Method} {c : Code} {b : Nat} {D : va_G} {cy : Nat → ClassId} {G : Gm} {v0 : Nat} {S : St} {Q : Int32 → St → Prop} (C : CX p s m args meth c b D cy cX11_isCompared RX11 2 (some .boolean)) (hE : s.heap.size + 0 ≤ b + G.2.2) (t_v0 : ok G 10 v0) (h : f_X11_isCompared G v0 Q S) : J p l e rm_X11_isCompared s m args below meth c b D cy 2 (zI b D cy below args s G Q) 0 0 G S 0 [(0, .ref (b + v0))] [] := by
  unfold f_X11_isCompared at h
  refine jB C [(.aload_n 0, 1, 0)] 1 [(0, .ref (b + v0))] [.ref (b + v0)] (by decide +kernel) rfl rfl ?_
  refine jGetI C 4 (by decide +kernel : decode cX11_isCompared 1 = .ok (.getfield 311, 3)) rfl t_v0 kX11 30 (by decide) rfl rfl (by decide) wd_1184 ?_
  refine jB C [(.iconst 1, 1, 1), (.isub, 1, 0)] 6 [(0, .ref (b + v0))] [.int ((S.1 v0 30) - 1)] (by decide +kernel) rfl rfl ?_
  refine jTopI (fun x1 e_x1 => ?_)
  have h := h x1 e_x1
  refine jB C [(.istore_n 1, 1, 0)] 7 [(1, .int x1), (0, .ref (b + v0))] [] (by decide +kernel) rfl rfl ?_
  refine jSub [1, 0] rfl ?_
  exact j_X11_isCompared_7 C hE t_v0 h
theorem ok_X11_isCompared {G : Gm} {v0 : Nat} {S : St} {Q : Int32 → St → Prop}  (t_v0 : ok G 10 v0) (h : f_X11_isCompared G v0 Q S) : MT yX11_isCompared cX11_isCompared 2 (some .boolean) rm_X11_isCompared 0 0 (fun b => [.ref (b + v0)]) G S (QI (fun r G1 S1 => G1 = G ∧ Q r S1)) := MT.ofJ (by decide +kernel) (fun b => [(0, .ref (b + v0))]) (fun b => rfl) (fun b => Nat.le_of_ble_eq_true rfl) (fun l b D cy p e s m below meth c C hE hn => j_X11_isCompared C hE t_v0 h)
theorem hd_X11_isCompared : yX11_isCompared.cls ≠ "java/lang/invoke/MethodHandle" ∧ yX11_isCompared.cls ≠ "java/lang/invoke/VarHandle" ∧ (parseMethodDescriptor yX11_isCompared.desc).map (fun d => d.parameters.length) = some 0 := by decide +kernel
abbrev rm_X11_behindSum : Room := { frames := 3, cells := 0, slots := 0, locals := 61 }
set_option maxHeartbeats 4000000 in
set_option maxRecDepth 100000 in
theorem j_X11_behindSum_224 {p : Program} {l : Launch} {e : Env} {s : State} {m : MethodId} {args : Array Value} {below : List Frame} {meth : Method} {c : Code} {b : Nat} {D : va_G} {cy : Nat → ClassId} {G : Gm} {v0 : Nat} {v2 : Int32} {u0 : Int32} {u1 : Nat} {S : St} {Q : Int32 → St → Prop} (C : CX p s m args meth c b D cy cX11_behindSum RX11 4 (some .int)) (hE : s.heap.size + 0 ≤ b + G.2.2) (t_v0 : ok G 10 v0) (t_u1 : ok G 10 u1) (h : f_X11_behindSum_224 G v0 v2 u0 u1 Q S) : J p l e rm_X11_behindSum s m args below meth c b D cy 4 (zI b D cy below args s G Q) 0 0 G S 224 [(0, .ref (b + v0)), (2, .int v2)] [.int u0, .ref (b + u1)] := by
  unfold f_X11_behindSum_224 at h
  refine jcV_V C 227 (rest := []) (ok_X11_must t_u1 h) (by decide +kernel : decode cX11_behindSum 224 = .ok (.invokevirtual 304, 3)) rfl wd_1546 wd_1548 wp_124 wd_12 wd_1549 ⟨rfl, rfl⟩ hd_X11_must ⟨Nat.le_of_ble_eq_true rfl, Nat.le_of_ble_eq_true rfl⟩ t_u1 kX11 (by decide) rfl rfl rfl (Nat.le_of_ble_eq_true rfl) ⟨Nat.zero_le _, Nat.zero_le _⟩ (fun S1 h => ?_)
  refine jB C [(.aload_n 0, 1, 0)] 228 [(0, .ref (b + v0)), (2, .int v2)] [.ref (b + v0)] (by decide +kernel) rfl rfl ?_
  refine jGetI C 231 (by decide +kernel : decode cX11_behindSum 228 = .ok (.getfield 271, 3)) rfl t_v0 kX11 20 (by decide) rfl rfl (by decide) wd_1174 ?_
  refine jIf_ne C 234 245 (by decide +kernel : decode cX11_behindSum 231 = .ok (.ifCond .ne 14, 3)) rfl rfl (fun c2 => ?_) (fun c2 => ?_)
  · have h := it2 h c2
    refine jB C [(.iconst 1, 1, 1)] 246 [(0, .ref (b + v0)), (2, .int v2)] [.int 1] (by decide +kernel) rfl rfl ?_
    exact jRetI C (by decide +kernel : decode cX11_behindSum 246 = .ok (.ireturn, 1)) (Nat.le_refl _) (Nat.le_refl _) ⟨rfl, h⟩
  · have h := it1 h c2
    refine jB C [(.aload_n 0, 1, 0), (.iconst 5, 1, 5)] 236 [(0, .ref (b + v0)), (2, .int v2)] [.int 5, .ref (b + v0)] (by decide +kernel) rfl rfl ?_
    refine jcV_V C 239 (rest := []) (ok_X11_settle t_v0 h) (by decide +kernel : decode cX11_behindSum 236 = .ok (.invokevirtual 372, 3)) rfl wd_1603 wd_1605 wp_137 wd_12 wd_1606 ⟨rfl, rfl⟩ hd_X11_settle ⟨Nat.le_of_ble_eq_true rfl, Nat.le_of_ble_eq_true rfl⟩ t_v0 kX11 (by decide) rfl rfl rfl (Nat.le_of_ble_eq_true rfl) ⟨Nat.zero_le _, Nat.zero_le _⟩ (fun S3 h => ?_)
    refine jB C [(.aload_n 0, 1, 0), (.iload_n 2, 1, 0), (.iconst 0, 1, 0)] 242 [(0, .ref (b + v0)), (2, .int v2)] [.int 0, .int v2, .ref (b + v0)] (by decide +kernel) rfl rfl ?_
    refine jcV_V C 245 (rest := []) (ok_X11_push t_v0 h) (by decide +kernel : decode cX11_behindSum 242 = .ok (.invokevirtual 335, 3)) rfl wd_1559 wd_1561 wp_127 wd_12 wd_1562 ⟨rfl, rfl⟩ hd_X11_push ⟨Nat.le_of_ble_eq_true rfl, Nat.le_of_ble_eq_true rfl⟩ t_v0 kX11 (by decide) rfl rfl rfl (Nat.le_of_ble_eq_true rfl) ⟨Nat.zero_le _, Nat.zero_le _⟩ (fun S4 h => ?_)
    refine jB C [(.iconst 1, 1, 1)] 246 [(0, .ref (b + v0)), (2, .int v2)] [.int 1] (by decide +kernel) rfl rfl ?_
    exact jRetI C (by decide +kernel : decode cX11_behindSum 246 = .ok (.ireturn, 1)) (Nat.le_refl _) (Nat.le_refl _) ⟨rfl, h⟩
set_option maxHeartbeats 4000000 in
set_option maxRecDepth 100000 in
theorem j_X11_behindSum_219 {p : Program} {l : Launch} {e : Env} {s : State} {m : MethodId} {args : Array Value} {below : List Frame} {meth : Method} {c : Code} {b : Nat} {D : va_G} {cy : Nat → ClassId} {G : Gm} {v0 : Nat} {v2 : Int32} {u0 : Nat} {S : St} {Q : Int32 → St → Prop} (C : CX p s m args meth c b D cy cX11_behindSum RX11 4 (some .int)) (hE : s.heap.size + 0 ≤ b + G.2.2) (t_v0 : ok G 10 v0) (t_u0 : ok G 10 u0) (h : f_X11_behindSum_219 G v0 v2 u0 Q S) : J p l e rm_X11_behindSum s m args below meth c b D cy 4 (zI b D cy below args s G Q) 0 0 G S 219 [(0, .ref (b + v0)), (2, .int v2)] [.ref (b + u0)] := by
  unfold f_X11_behindSum_219 at h
  refine jB C [(.iconst 1, 1, 1)] 220 [(0, .ref (b + v0)), (2, .int v2)] [.int 1, .ref (b + u0)] (by decide +kernel) rfl rfl ?_
  refine jGoto C 224 (by decide +kernel : decode cX11_behindSum 220 = .ok (.goto 4, 3)) rfl ?_
  refine jSub [0, 1] rfl ?_
  exact j_X11_behindSum_224 C hE t_v0 t_u0 h
set_option maxHeartbeats 4000000 in
set_option maxRecDepth 100000 in
theorem j_X11_behindSum_202 {p : Program} {l : Launch} {e : Env} {s : State} {m : MethodId} {args : Array Value} {below : List Frame} {meth : Method} {c : Code} {b : Nat} {D : va_G} {cy : Nat → ClassId} {G : Gm} {v0 : Nat} {u0 : Int32} {S : St} {Q : Int32 → St → Prop} (C : CX p s m args meth c b D cy cX11_behindSum RX11 4 (some .int)) (hE : s.heap.size + 0 ≤ b + G.2.2) (t_v0 : ok G 10 v0) (h : f_X11_behindSum_202 G v0 u0 Q S) : J p l e rm_X11_behindSum s m args below meth c b D cy 4 (zI b D cy below args s G Q) 0 0 G S 202 [(0, .ref (b + v0))] [.int u0] := by
  unfold f_X11_behindSum_202 at h
  refine jB C [(.istore_n 2, 1, 0), (.aload_n 0, 1, 0), (.iload_n 2, 1, 0), (.bipush 27, 2, 27)] 207 [(2, .int u0), (0, .ref (b + v0))] [.int 27, .int u0, .ref (b + v0)] (by decide +kernel) rfl rfl ?_
  refine jIcmp_ne C 210 219 (by decide +kernel : decode cX11_behindSum 207 = .ok (.if_icmp .ne 12, 3)) rfl rfl (fun c1 => ?_) (fun c1 => ?_)
  · have h := it2 h c1
    refine jSub [1, 0] rfl ?_
    exact j_X11_behindSum_219 C hE t_v0 t_v0 h
  · have h := it1 h c1
    refine jB C [(.aload_n 0, 1, 0), (.bipush 61, 2, 61)] 213 [(2, .int u0), (0, .ref (b + v0))] [.int 61, .ref (b + v0), .ref (b + v0)] (by decide +kernel) rfl rfl ?_
    refine jcV_I C 216 (rest := [.ref (b + v0)]) (ok_X11_isSign t_v0 h) (by decide +kernel : decode cX11_behindSum 213 = .ok (.invokevirtual 341, 3)) rfl wd_1563 wd_1565 wp_128 wd_12 wd_1566 ⟨rfl, rfl⟩ hd_X11_isSign ⟨Nat.le_of_ble_eq_true rfl, Nat.le_of_ble_eq_true rfl⟩ t_v0 kX11 (by decide) rfl rfl rfl (Nat.le_of_ble_eq_true rfl) ⟨Nat.zero_le _, Nat.zero_le _⟩ (fun r3 S2 h => ?_)
    refine jIf_eq C 219 223 (by decide +kernel : decode cX11_behindSum 216 = .ok (.ifCond .eq 7, 3)) rfl rfl (fun c4 => ?_) (fun c4 => ?_)
    · have h := it1 h c4
      refine jB C [(.iconst 0, 1, 0)] 224 [(2, .int u0), (0, .ref (b + v0))] [.int 0, .ref (b + v0)] (by decide +kernel) rfl rfl ?_
      refine jSub [1, 0] rfl ?_
      exact j_X11_behindSum_224 C hE t_v0 t_v0 h
    · have h := it2 h c4
      refine jSub [1, 0] rfl ?_
      exact j_X11_behindSum_219 C hE t_v0 t_v0 h
set_option maxHeartbeats 4000000 in
set_option maxRecDepth 100000 in
theorem j_X11_behindSum_163 {p : Program} {l : Launch} {e : Env} {s : State} {m : MethodId} {args : Array Value} {below : List Frame} {meth : Method} {c : Code} {b : Nat} {D : va_G} {cy : Nat → ClassId} {G : Gm} {v0 : Nat} {S : St} {Q : Int32 → St → Prop} (C : CX p s m args meth c b D cy cX11_behindSum RX11 4 (some .int)) (hE : s.heap.size + 0 ≤ b + G.2.2) (t_v0 : ok G 10 v0) (h : f_X11_behindSum_163 G v0 Q S) : J p l e rm_X11_behindSum s m args below meth c b D cy 4 (zI b D cy below args s G Q) 0 0 G S 163 [(0, .ref (b + v0))] [] := by
  unfold f_X11_behindSum_163 at h
  refine jB C [(.aload_n 0, 1, 0)] 164 [(0, .ref (b + v0))] [.ref (b + v0)] (by decide +kernel) rfl rfl ?_
  refine jcV_I C 167 (rest := []) (ok_X11_isCompared t_v0 h) (by decide +kernel : decode cX11_behindSum 164 = .ok (.invokevirtual 378, 3)) rfl wd_1611 wd_1613 wp_139 wd_12 wd_1614 ⟨rfl, rfl⟩ hd_X11_isCompared ⟨Nat.le_of_ble_eq_true rfl, Nat.le_of_ble_eq_true rfl⟩ t_v0 kX11 (by decide) rfl rfl rfl (Nat.le_of_ble_eq_true rfl) ⟨Nat.zero_le _, Nat.zero_le _⟩ (fun r2 S1 h => ?_)
  refine jIf_eq C 170 172 (by decide +kernel : decode cX11_behindSum 167 = .ok (.ifCond .eq 5, 3)) rfl rfl (fun c3 => ?_) (fun c3 => ?_)
  · have h := it1 h c3
    refine jB C [(.aload_n 0, 1, 0), (.bipush 60, 2, 60)] 175 [(0, .ref (b + v0))] [.int 60, .ref (b + v0)] (by decide +kernel) rfl rfl ?_
    refine jcV_I C 178 (rest := []) (ok_X11_isSign t_v0 h) (by decide +kernel : decode cX11_behindSum 175 = .ok (.invokevirtual 341, 3)) rfl wd_1563 wd_1565 wp_128 wd_12 wd_1566 ⟨rfl, rfl⟩ hd_X11_isSign ⟨Nat.le_of_ble_eq_true rfl, Nat.le_of_ble_eq_true rfl⟩ t_v0 kX11 (by decide) rfl rfl rfl (Nat.le_of_ble_eq_true rfl) ⟨Nat.zero_le _, Nat.zero_le _⟩ (fun r5 S4 h => ?_)
    refine jIf_eq C 181 186 (by decide +kernel : decode cX11_behindSum 178 = .ok (.ifCond .eq 8, 3)) rfl rfl (fun c6 => ?_) (fun c6 => ?_)
    · have h := it1 h c6
      refine jB C [(.aload_n 0, 1, 0), (.bipush 62, 2, 62)] 189 [(0, .ref (b + v0))] [.int 62, .ref (b + v0)] (by decide +kernel) rfl rfl ?_
      refine jcV_I C 192 (rest := []) (ok_X11_isSign t_v0 h) (by decide +kernel : decode cX11_behindSum 189 = .ok (.invokevirtual 341, 3)) rfl wd_1563 wd_1565 wp_128 wd_12 wd_1566 ⟨rfl, rfl⟩ hd_X11_isSign ⟨Nat.le_of_ble_eq_true rfl, Nat.le_of_ble_eq_true rfl⟩ t_v0 kX11 (by decide) rfl rfl rfl (Nat.le_of_ble_eq_true rfl) ⟨Nat.zero_le _, Nat.zero_le _⟩ (fun r8 S7 h => ?_)
      refine jIf_eq C 195 200 (by decide +kernel : decode cX11_behindSum 192 = .ok (.ifCond .eq 8, 3)) rfl rfl (fun c9 => ?_) (fun c9 => ?_)
      · have h := it1 h c9
        refine jB C [(.bipush 27, 2, 27)] 202 [(0, .ref (b + v0))] [.int 27] (by decide +kernel) rfl rfl ?_
        refine jSub [0] rfl ?_
        exact j_X11_behindSum_202 C hE t_v0 h
      · have h := it2 h c9
        refine jB C [(.bipush 26, 2, 26)] 197 [(0, .ref (b + v0))] [.int 26] (by decide +kernel) rfl rfl ?_
        refine jGoto C 202 (by decide +kernel : decode cX11_behindSum 197 = .ok (.goto 5, 3)) rfl ?_
        refine jSub [0] rfl ?_
        exact j_X11_behindSum_202 C hE t_v0 h
    · have h := it2 h c6
      refine jB C [(.bipush 25, 2, 25)] 183 [(0, .ref (b + v0))] [.int 25] (by decide +kernel) rfl rfl ?_
      refine jGoto C 202 (by decide +kernel : decode cX11_behindSum 183 = .ok (.goto 19, 3)) rfl ?_
      refine jSub [0] rfl ?_
      exact j_X11_behindSum_202 C hE t_v0 h
  · have h := it2 h c3
    refine jB C [(.iconst 2, 1, 2)] 171 [(0, .ref (b + v0))] [.int 2] (by decide +kernel) rfl rfl ?_
    exact jRetI C (by decide +kernel : decode cX11_behindSum 171 = .ok (.ireturn, 1)) (Nat.le_refl _) (Nat.le_refl _) ⟨rfl, h⟩
set_option maxHeartbeats 4000000 in
set_option maxRecDepth 100000 in
theorem j_X11_behindSum_71 {p : Program} {l : Launch} {e : Env} {s : State} {m : MethodId} {args : Array Value} {below : List Frame} {meth : Method} {c : Code} {b : Nat} {D : va_G} {cy : Nat → ClassId} {G : Gm} {v0 : Nat} {v1 : Int32} {u0 : Int32} {S : St} {Q : Int32 → St → Prop} (C : CX p s m args meth c b D cy cX11_behindSum RX11 4 (some .int)) (hE : s.heap.size + 0 ≤ b + G.2.2) (t_v0 : ok G 10 v0) (h : f_X11_behindSum_71 G v0 v1 u0 Q S) : J p l e rm_X11_behindSum s m args below meth c b D cy 4 (zI b D cy below args s G Q) 0 0 G S 71 [(0, .ref (b + v0)), (1, .int v1)] [.int u0] := by
  unfold f_X11_behindSum_71 at h
  refine jB C [(.istore_n 2, 1, 0), (.iload_n 2, 1, 0), (.iconst (-1), 1, (-1))] 74 [(2, .int u0), (0, .ref (b + v0)), (1, .int v1)] [.int (-1), .int u0] (by decide +kernel) rfl rfl ?_
  refine jIcmp_eq C 77 97 (by decide +kernel : decode cX11_behindSum 74 = .ok (.if_icmp .eq 23, 3)) rfl rfl (fun c1 => ?_) (fun c1 => ?_)
  · have h := it1 h c1
    refine jB C [(.aload_n 0, 1, 0)] 98 [(2, .int u0), (0, .ref (b + v0)), (1, .int v1)] [.ref (b + v0)] (by decide +kernel) rfl rfl ?_
    refine jcV_I C 101 (rest := []) (ok_X11_inner t_v0 h) (by decide +kernel : decode cX11_behindSum 98 = .ok (.invokevirtual 375, 3)) rfl wd_1607 wd_1609 wp_138 wd_12 wd_1610 ⟨rfl, rfl⟩ hd_X11_inner ⟨Nat.le_of_ble_eq_true rfl, Nat.le_of_ble_eq_true rfl⟩ t_v0 kX11 (by decide) rfl rfl rfl (Nat.le_of_ble_eq_true rfl) ⟨Nat.zero_le _, Nat.zero_le _⟩ (fun r3 S2 h => ?_)
    refine jB C [(.istore_n 3, 1, 0), (.iload_n 3, 1, 0), (.bipush 32, 2, 32)] 105 [(3, .int r3), (2, .int u0), (0, .ref (b + v0)), (1, .int v1)] [.int 32, .int r3] (by decide +kernel) rfl rfl ?_
    refine jIcmp_ne C 108 152 (by decide +kernel : decode cX11_behindSum 105 = .ok (.if_icmp .ne 47, 3)) rfl rfl (fun c4 => ?_) (fun c4 => ?_)
    · have h := it2 h c4
      refine jB C [(.iload_n 3, 1, 0), (.iconst (-1), 1, (-1))] 154 [(3, .int r3), (2, .int u0), (0, .ref (b + v0)), (1, .int v1)] [.int (-1), .int r3] (by decide +kernel) rfl rfl ?_
      refine jIcmp_ne C 157 163 (by decide +kernel : decode cX11_behindSum 154 = .ok (.if_icmp .ne 9, 3)) rfl rfl (fun c5 => ?_) (fun c5 => ?_)
      · have h := it2 h c5
        refine jSub [2] rfl ?_
        exact j_X11_behindSum_163 C hE t_v0 h
      · have h := it1 h c5
        refine jB C [(.iload_n 1, 1, 0)] 158 [(3, .int r3), (2, .int u0), (0, .ref (b + v0)), (1, .int v1)] [.int v1] (by decide +kernel) rfl rfl ?_
        refine jIf_ne C 161 163 (by decide +kernel : decode cX11_behindSum 158 = .ok (.ifCond .ne 5, 3)) rfl rfl (fun c6 => ?_) (fun c6 => ?_)
        · have h := it2 h c6
          refine jSub [2] rfl ?_
          exact j_X11_behindSum_163 C hE t_v0 h
        · have h := it1 h c6
          refine jB C [(.iconst 4, 1, 4)] 162 [(3, .int r3), (2, .int u0), (0, .ref (b + v0)), (1, .int v1)] [.int 4] (by decide +kernel) rfl rfl ?_
          exact jRetI C (by decide +kernel : decode cX11_behindSum 162 = .ok (.ireturn, 1)) (Nat.le_refl _) (Nat.le_refl _) ⟨rfl, h⟩
    · have h := it1 h c4
      refine jB C [(.aload_n 0, 1, 0), (.aload_n 0, 1, 0), (.bipush 93, 2, 93)] 112 [(3, .int r3), (2, .int u0), (0, .ref (b + v0)), (1, .int v1)] [.int 93, .ref (b + v0), .ref (b + v0)] (by decide +kernel) rfl rfl ?_
      refine jcV_I C 115 (rest := [.ref (b + v0)]) (ok_X11_isSign t_v0 h) (by decide +kernel : decode cX11_behindSum 112 = .ok (.invokevirtual 341, 3)) rfl wd_1563 wd_1565 wp_128 wd_12 wd_1566 ⟨rfl, rfl⟩ hd_X11_isSign ⟨Nat.le_of_ble_eq_true rfl, Nat.le_of_ble_eq_true rfl⟩ t_v0 kX11 (by decide) rfl rfl rfl (Nat.le_of_ble_eq_true rfl) ⟨Nat.zero_le _, Nat.zero_le _⟩ (fun r8 S7 h => ?_)
      refine jcV_V C 118 (rest := []) (ok_X11_must t_v0 h) (by decide +kernel : decode cX11_behindSum 115 = .ok (.invokevirtual 304, 3)) rfl wd_1546 wd_1548 wp_124 wd_12 wd_1549 ⟨rfl, rfl⟩ hd_X11_must ⟨Nat.le_of_ble_eq_true rfl, Nat.le_of_ble_eq_true rfl⟩ t_v0 kX11 (by decide) rfl rfl rfl (Nat.le_of_ble_eq_true rfl) ⟨Nat.zero_le _, Nat.zero_le _⟩ (fun S9 h => ?_)
      refine jB C [(.aload_n 0, 1, 0)] 119 [(3, .int r3), (2, .int u0), (0, .ref (b + v0)), (1, .int v1)] [.ref (b + v0)] (by decide +kernel) rfl rfl ?_
      refine jGetI C 122 (by decide +kernel : decode cX11_behindSum 119 = .ok (.getfield 271, 3)) rfl t_v0 kX11 20 (by decide) rfl rfl (by decide) wd_1174 ?_
      refine jIf_ne C 125 150 (by decide +kernel : decode cX11_behindSum 122 = .ok (.ifCond .ne 28, 3)) rfl rfl (fun c10 => ?_) (fun c10 => ?_)
      · have h := it2 h c10
        refine jB C [(.iconst 3, 1, 3)] 151 [(3, .int r3), (2, .int u0), (0, .ref (b + v0)), (1, .int v1)] [.int 3] (by decide +kernel) rfl rfl ?_
        exact jRetI C (by decide +kernel : decode cX11_behindSum 151 = .ok (.ireturn, 1)) (Nat.le_refl _) (Nat.le_refl _) ⟨rfl, h⟩
      · have h := it1 h c10
        refine jB C [(.aload_n 0, 1, 0), (.iconst 5, 1, 5)] 127 [(3, .int r3), (2, .int u0), (0, .ref (b + v0)), (1, .int v1)] [.int 5, .ref (b + v0)] (by decide +kernel) rfl rfl ?_
        refine jcV_V C 130 (rest := []) (ok_X11_settle t_v0 h) (by decide +kernel : decode cX11_behindSum 127 = .ok (.invokevirtual 372, 3)) rfl wd_1603 wd_1605 wp_137 wd_12 wd_1606 ⟨rfl, rfl⟩ hd_X11_settle ⟨Nat.le_of_ble_eq_true rfl, Nat.le_of_ble_eq_true rfl⟩ t_v0 kX11 (by decide) rfl rfl rfl (Nat.le_of_ble_eq_true rfl) ⟨Nat.zero_le _, Nat.zero_le _⟩ (fun S11 h => ?_)
        refine jB C [(.aload_n 0, 1, 0), (.dup, 1, 0)] 132 [(3, .int r3), (2, .int u0), (0, .ref (b + v0)), (1, .int v1)] [.ref (b + v0), .ref (b + v0)] (by decide +kernel) rfl rfl ?_
        refine jGetI C 135 (by decide +kernel : decode cX11_behindSum 132 = .ok (.getfield 311, 3)) rfl t_v0 kX11 30 (by decide) rfl rfl (by decide) wd_1184 ?_
        refine jB C [(.iconst 1, 1, 1), (.isub, 1, 0)] 137 [(3, .int r3), (2, .int u0), (0, .ref (b + v0)), (1, .int v1)] [.int ((S11.1 v0 30) - 1), .ref (b + v0)] (by decide +kernel) rfl rfl ?_
        refine jPutI C 140 (by decide +kernel : decode cX11_behindSum 137 = .ok (.putfield 311, 3)) rfl hE t_v0 kX11 30 (by decide) rfl rfl (by decide) rfl wd_1184 rfl rfl rfl ?_
        refine jTopS (fun S12 e_S12 => ?_)
        have h := h S12 e_S12
        refine jB C [(.aload_n 0, 1, 0), (.dup, 1, 0)] 142 [(3, .int r3), (2, .int u0), (0, .ref (b + v0)), (1, .int v1)] [.ref (b + v0), .ref (b + v0)] (by decide +kernel) rfl rfl ?_
        refine jGetI C 145 (by decide +kernel : decode cX11_behindSum 142 = .ok (.getfield 332, 3)) rfl t_v0 kX11 31 (by decide) rfl rfl (by decide) wd_1185 ?_
        refine jB C [(.iconst 1, 1, 1), (.isub, 1, 0)] 147 [(3, .int r3), (2, .int u0), (0, .ref (b + v0)), (1, .int v1)] [.int ((S12.1 v0 31) - 1), .ref (b + v0)] (by decide +kernel) rfl rfl ?_
        refine jPutI C 150 (by decide +kernel : decode cX11_behindSum 147 = .ok (.putfield 332, 3)) rfl hE t_v0 kX11 31 (by decide) rfl rfl (by decide) rfl wd_1185 rfl rfl rfl ?_
        refine jTopS (fun S13 e_S13 => ?_)
        have h := h S13 e_S13
        refine jB C [(.iconst 3, 1, 3)] 151 [(3, .int r3), (2, .int u0), (0, .ref (b + v0)), (1, .int v1)] [.int 3] (by decide +kernel) rfl rfl ?_
        exact jRetI C (by decide +kernel : decode cX11_behindSum 151 = .ok (.ireturn, 1)) (Nat.le_refl _) (Nat.le_refl _) ⟨rfl, h⟩
  · have h := it2 h c1
    refine jB C [(.aload_n 0, 1, 0), (.iload_n 2, 1, 0)] 79 [(2, .int u0), (0, .ref (b + v0)), (1, .int v1)] [.int u0, .ref (b + v0)] (by decide +kernel) rfl rfl ?_
    refine jcS_I C 82 (rest := [.ref (b + v0)]) (ok_X11_binds h) (by decide +kernel : decode cX11_behindSum 79 = .ok (.invokestatic 314, 3)) rfl wd_1600 wd_1601 wd_12 wd_1602 ⟨rfl, rfl⟩ hd_X11_binds ⟨Nat.le_of_ble_eq_true rfl, Nat.le_of_ble_eq_true rfl⟩ rfl rfl (Nat.le_of_ble_eq_true rfl) ⟨Nat.zero_le _, Nat.zero_le _⟩ (fun r15 S14 h => ?_)
    refine jcV_V C 85 (rest := []) (ok_X11_settle t_v0 h) (by decide +kernel : decode cX11_behindSum 82 = .ok (.invokevirtual 372, 3)) rfl wd_1603 wd_1605 wp_137 wd_12 wd_1606 ⟨rfl, rfl⟩ hd_X11_settle ⟨Nat.le_of_ble_eq_true rfl, Nat.le_of_ble_eq_true rfl⟩ t_v0 kX11 (by decide) rfl rfl rfl (Nat.le_of_ble_eq_true rfl) ⟨Nat.zero_le _, Nat.zero_le _⟩ (fun S16 h => ?_)
    refine jB C [(.aload_n 0, 1, 0), (.iload_n 2, 1, 0), (.iconst 0, 1, 0)] 88 [(2, .int u0), (0, .ref (b + v0)), (1, .int v1)] [.int 0, .int u0, .ref (b + v0)] (by decide +kernel) rfl rfl ?_
    refine jcV_V C 91 (rest := []) (ok_X11_push t_v0 h) (by decide +kernel : decode cX11_behindSum 88 = .ok (.invokevirtual 335, 3)) rfl wd_1559 wd_1561 wp_127 wd_12 wd_1562 ⟨rfl, rfl⟩ hd_X11_push ⟨Nat.le_of_ble_eq_true rfl, Nat.le_of_ble_eq_true rfl⟩ t_v0 kX11 (by decide) rfl rfl rfl (Nat.le_of_ble_eq_true rfl) ⟨Nat.zero_le _, Nat.zero_le _⟩ (fun S17 h => ?_)
    refine jB C [(.aload_n 0, 1, 0)] 92 [(2, .int u0), (0, .ref (b + v0)), (1, .int v1)] [.ref (b + v0)] (by decide +kernel) rfl rfl ?_
    refine jcV_V C 95 (rest := []) (ok_X11_next t_v0 h) (by decide +kernel : decode cX11_behindSum 92 = .ok (.invokevirtual 275, 3)) rfl wd_1524 wd_1526 wp_121 wd_12 wd_1527 ⟨rfl, rfl⟩ hd_X11_next ⟨Nat.le_of_ble_eq_true rfl, Nat.le_of_ble_eq_true rfl⟩ t_v0 kX11 (by decide) rfl rfl rfl (Nat.le_of_ble_eq_true rfl) ⟨Nat.zero_le _, Nat.zero_le _⟩ (fun S18 h => ?_)
    refine jB C [(.iconst 1, 1, 1)] 96 [(2, .int u0), (0, .ref (b + v0)), (1, .int v1)] [.int 1] (by decide +kernel) rfl rfl ?_
    exact jRetI C (by decide +kernel : decode cX11_behindSum 96 = .ok (.ireturn, 1)) (Nat.le_refl _) (Nat.le_refl _) ⟨rfl, h⟩
set_option maxHeartbeats 4000000 in
set_option maxRecDepth 100000 in
theorem j_X11_behindSum {p : Program} {l : Launch} {e : Env} {s : State} {m : MethodId} {args : Array Value} {below : List Frame} {meth : Method} {c : Code} {b : Nat} {D : va_G} {cy : Nat → ClassId} {G : Gm} {v0 : Nat} {v1 : Int32} {S : St} {Q : Int32 → St → Prop} (C : CX p s m args meth c b D cy cX11_behindSum RX11 4 (some .int)) (hE : s.heap.size + 0 ≤ b + G.2.2) (t_v0 : ok G 10 v0) (h : f_X11_behindSum G v0 v1 Q S) : J p l e rm_X11_behindSum s m args below meth c b D cy 4 (zI b D cy below args s G Q) 0 0 G S 0 [(0, .ref (b + v0)), (1, .int v1)] [] := by
  unfold f_X11_behindSum at h
  refine jB C [(.aload_n 0, 1, 0), (.bipush 43, 2, 43)] 3 [(0, .ref (b + v0)), (1, .int v1)] [.int 43, .ref (b + v0)] (by decide +kernel) rfl rfl ?_
  refine jcV_I C 6 (rest := []) (ok_X11_isSign t_v0 h) (by decide +kernel : decode cX11_behindSum 3 = .ok (.invokevirtual 341, 3)) rfl wd_1563 wd_1565 wp_128 wd_12 wd_1566 ⟨rfl, rfl⟩ hd_X11_isSign ⟨Nat.le_of_ble_eq_true rfl, Nat.le_of_ble_eq_true rfl⟩ t_v0 kX11 (by decide) rfl rfl rfl (Nat.le_of_ble_eq_true rfl) ⟨Nat.zero_le _, Nat.zero_le _⟩ (fun r2 S1 h => ?_)
  refine jIf_eq C 9 14 (by decide +kernel : decode cX11_behindSum 6 = .ok (.ifCond .eq 8, 3)) rfl rfl (fun c3 => ?_) (fun c3 => ?_)
  · have h := it1 h c3
    refine jB C [(.aload_n 0, 1, 0), (.bipush 45, 2, 45)] 17 [(0, .ref (b + v0)), (1, .int v1)] [.int 45, .ref (b + v0)] (by decide +kernel) rfl rfl ?_
    refine jcV_I C 20 (rest := []) (ok_X11_isSign t_v0 h) (by decide +kernel : decode cX11_behindSum 17 = .ok (.invokevirtual 341, 3)) rfl wd_1563 wd_1565 wp_128 wd_12 wd_1566 ⟨rfl, rfl⟩ hd_X11_isSign ⟨Nat.le_of_ble_eq_true rfl, Nat.le_of_ble_eq_true rfl⟩ t_v0 kX11 (by decide) rfl rfl rfl (Nat.le_of_ble_eq_true rfl) ⟨Nat.zero_le _, Nat.zero_le _⟩ (fun r5 S4 h => ?_)
    refine jIf_eq C 23 28 (by decide +kernel : decode cX11_behindSum 20 = .ok (.ifCond .eq 8, 3)) rfl rfl (fun c6 => ?_) (fun c6 => ?_)
    · have h := it1 h c6
      refine jB C [(.aload_n 0, 1, 0), (.bipush 42, 2, 42)] 31 [(0, .ref (b + v0)), (1, .int v1)] [.int 42, .ref (b + v0)] (by decide +kernel) rfl rfl ?_
      refine jcV_I C 34 (rest := []) (ok_X11_isSign t_v0 h) (by decide +kernel : decode cX11_behindSum 31 = .ok (.invokevirtual 341, 3)) rfl wd_1563 wd_1565 wp_128 wd_12 wd_1566 ⟨rfl, rfl⟩ hd_X11_isSign ⟨Nat.le_of_ble_eq_true rfl, Nat.le_of_ble_eq_true rfl⟩ t_v0 kX11 (by decide) rfl rfl rfl (Nat.le_of_ble_eq_true rfl) ⟨Nat.zero_le _, Nat.zero_le _⟩ (fun r8 S7 h => ?_)
      refine jIf_eq C 37 42 (by decide +kernel : decode cX11_behindSum 34 = .ok (.ifCond .eq 8, 3)) rfl rfl (fun c9 => ?_) (fun c9 => ?_)
      · have h := it1 h c9
        refine jB C [(.aload_n 0, 1, 0), (.bipush 47, 2, 47)] 45 [(0, .ref (b + v0)), (1, .int v1)] [.int 47, .ref (b + v0)] (by decide +kernel) rfl rfl ?_
        refine jcV_I C 48 (rest := []) (ok_X11_isSign t_v0 h) (by decide +kernel : decode cX11_behindSum 45 = .ok (.invokevirtual 341, 3)) rfl wd_1563 wd_1565 wp_128 wd_12 wd_1566 ⟨rfl, rfl⟩ hd_X11_isSign ⟨Nat.le_of_ble_eq_true rfl, Nat.le_of_ble_eq_true rfl⟩ t_v0 kX11 (by decide) rfl rfl rfl (Nat.le_of_ble_eq_true rfl) ⟨Nat.zero_le _, Nat.zero_le _⟩ (fun r11 S10 h => ?_)
        refine jIf_eq C 51 56 (by decide +kernel : decode cX11_behindSum 48 = .ok (.ifCond .eq 8, 3)) rfl rfl (fun c12 => ?_) (fun c12 => ?_)
        · have h := it1 h c12
          refine jB C [(.aload_n 0, 1, 0), (.bipush 37, 2, 37)] 59 [(0, .ref (b + v0)), (1, .int v1)] [.int 37, .ref (b + v0)] (by decide +kernel) rfl rfl ?_
          refine jcV_I C 62 (rest := []) (ok_X11_isSign t_v0 h) (by decide +kernel : decode cX11_behindSum 59 = .ok (.invokevirtual 341, 3)) rfl wd_1563 wd_1565 wp_128 wd_12 wd_1566 ⟨rfl, rfl⟩ hd_X11_isSign ⟨Nat.le_of_ble_eq_true rfl, Nat.le_of_ble_eq_true rfl⟩ t_v0 kX11 (by decide) rfl rfl rfl (Nat.le_of_ble_eq_true rfl) ⟨Nat.zero_le _, Nat.zero_le _⟩ (fun r14 S13 h => ?_)
          refine jIf_eq C 65 70 (by decide +kernel : decode cX11_behindSum 62 = .ok (.ifCond .eq 8, 3)) rfl rfl (fun c15 => ?_) (fun c15 => ?_)
          · have h := it1 h c15
            refine jB C [(.iconst (-1), 1, (-1))] 71 [(0, .ref (b + v0)), (1, .int v1)] [.int (-1)] (by decide +kernel) rfl rfl ?_
            refine jSub [0, 1] rfl ?_
            exact j_X11_behindSum_71 C hE t_v0 h
          · have h := it2 h c15
            refine jB C [(.bipush 24, 2, 24)] 67 [(0, .ref (b + v0)), (1, .int v1)] [.int 24] (by decide +kernel) rfl rfl ?_
            refine jGoto C 71 (by decide +kernel : decode cX11_behindSum 67 = .ok (.goto 4, 3)) rfl ?_
            refine jSub [0, 1] rfl ?_
            exact j_X11_behindSum_71 C hE t_v0 h
        · have h := it2 h c12
          refine jB C [(.bipush 23, 2, 23)] 53 [(0, .ref (b + v0)), (1, .int v1)] [.int 23] (by decide +kernel) rfl rfl ?_
          refine jGoto C 71 (by decide +kernel : decode cX11_behindSum 53 = .ok (.goto 18, 3)) rfl ?_
          refine jSub [0, 1] rfl ?_
          exact j_X11_behindSum_71 C hE t_v0 h
      · have h := it2 h c9
        refine jB C [(.bipush 22, 2, 22)] 39 [(0, .ref (b + v0)), (1, .int v1)] [.int 22] (by decide +kernel) rfl rfl ?_
        refine jGoto C 71 (by decide +kernel : decode cX11_behindSum 39 = .ok (.goto 32, 3)) rfl ?_
        refine jSub [0, 1] rfl ?_
        exact j_X11_behindSum_71 C hE t_v0 h
    · have h := it2 h c6
      refine jB C [(.bipush 21, 2, 21)] 25 [(0, .ref (b + v0)), (1, .int v1)] [.int 21] (by decide +kernel) rfl rfl ?_
      refine jGoto C 71 (by decide +kernel : decode cX11_behindSum 25 = .ok (.goto 46, 3)) rfl ?_
      refine jSub [0, 1] rfl ?_
      exact j_X11_behindSum_71 C hE t_v0 h
  · have h := it2 h c3
    refine jB C [(.bipush 20, 2, 20)] 11 [(0, .ref (b + v0)), (1, .int v1)] [.int 20] (by decide +kernel) rfl rfl ?_
    refine jGoto C 71 (by decide +kernel : decode cX11_behindSum 11 = .ok (.goto 60, 3)) rfl ?_
    refine jSub [0, 1] rfl ?_
    exact j_X11_behindSum_71 C hE t_v0 h
theorem ok_X11_behindSum {G : Gm} {v0 : Nat} {v1 : Int32} {S : St} {Q : Int32 → St → Prop}  (t_v0 : ok G 10 v0) (h : f_X11_behindSum G v0 v1 Q S) : MT yX11_behindSum cX11_behindSum 4 (some .int) rm_X11_behindSum 0 0 (fun b => [.ref (b + v0), .int v1]) G S (QI (fun r G1 S1 => G1 = G ∧ Q r S1)) := MT.ofJ (by decide +kernel) (fun b => [(0, .ref (b + v0)), (1, .int v1)]) (fun b => rfl) (fun b => Nat.le_of_ble_eq_true rfl) (fun l b D cy p e s m below meth c C hE hn => j_X11_behindSum C hE t_v0 h)
theorem hd_X11_behindSum : yX11_behindSum.cls ≠ "java/lang/invoke/MethodHandle" ∧ yX11_behindSum.cls ≠ "java/lang/invoke/VarHandle" ∧ (parseMethodDescriptor yX11_behindSum.desc).map (fun d => d.parameters.length) = some 1 := by decide +kernel
abbrev rm_X11_isWord : Room := { frames := 0, cells := 0, slots := 0, locals := 0 }
set_option maxHeartbeats 4000000 in
set_option maxRecDepth 100000 in
theorem j_X11_isWord {p : Program} {l : Launch} {e : Env} {s : State} {m : MethodId} {args : Array Value} {below : List Frame} {meth : Method} {c : Code} {b : Nat} {D : va_G} {cy : Nat → ClassId} {G : Gm} {v0 : Nat} {v1 : Int64} {S : St} {Q : Int32 → St → Prop} (C : CX p s m args meth c b D cy cX11_isWord RX11 3 (some .boolean)) (hE : s.heap.size + 0 ≤ b + G.2.2) (t_v0 : ok G 10 v0) (h : f_X11_isWord G v0 v1 Q S) : J p l e rm_X11_isWord s m args below meth c b D cy 3 (zI b D cy below args s G Q) 0 0 G S 0 [(0, .ref (b + v0)), (1, .long v1)] [] := by
  unfold f_X11_isWord at h
  refine jB C [(.aload_n 0, 1, 0)] 1 [(0, .ref (b + v0)), (1, .long v1)] [.ref (b + v0)] (by decide +kernel) rfl rfl ?_
  refine jGetI C 4 (by decide +kernel : decode cX11_isWord 1 = .ok (.getfield 291, 3)) rfl t_v0 kX11 17 (by decide) rfl rfl (by decide) wd_1171 ?_
  refine jB C [(.iconst 1, 1, 1)] 5 [(0, .ref (b + v0)), (1, .long v1)] [.int 1, .int (S.1 v0 17)] (by decide +kernel) rfl rfl ?_
  refine jIcmp_ne C 8 21 (by decide +kernel : decode cX11_isWord 5 = .ok (.if_icmp .ne 16, 3)) rfl rfl (fun c1 => ?_) (fun c1 => ?_)
  · have h := it2 h c1
    refine jB C [(.iconst 0, 1, 0)] 22 [(0, .ref (b + v0)), (1, .long v1)] [.int 0] (by decide +kernel) rfl rfl ?_
    exact jRetZ C (by decide +kernel : decode cX11_isWord 22 = .ok (.ireturn, 1)) (Nat.le_refl _) (Nat.le_refl _) (by decide) ⟨rfl, h⟩
  · have h := it1 h c1
    refine jB C [(.aload_n 0, 1, 0)] 9 [(0, .ref (b + v0)), (1, .long v1)] [.ref (b + v0)] (by decide +kernel) rfl rfl ?_
    refine jGetJ C 12 (by decide +kernel : decode cX11_isWord 9 = .ok (.getfield 281, 3)) rfl t_v0 kX11 18 (by decide) rfl rfl (by decide) wd_1172 ?_
    refine jB C [(.lload_n 1, 1, 0), (.lcmp, 1, 0)] 14 [(0, .ref (b + v0)), (1, .long v1)] [.int (lg_cmp (S.2.1 v0 18) v1)] (by decide +kernel) rfl rfl ?_
    refine jIf_ne C 17 21 (by decide +kernel : decode cX11_isWord 14 = .ok (.ifCond .ne 7, 3)) rfl rfl (fun c2 => ?_) (fun c2 => ?_)
    · have h := it2 h c2
      refine jB C [(.iconst 0, 1, 0)] 22 [(0, .ref (b + v0)), (1, .long v1)] [.int 0] (by decide +kernel) rfl rfl ?_
      exact jRetZ C (by decide +kernel : decode cX11_isWord 22 = .ok (.ireturn, 1)) (Nat.le_refl _) (Nat.le_refl _) (by decide) ⟨rfl, h⟩
    · have h := it1 h c2
      refine jB C [(.iconst 1, 1, 1)] 18 [(0, .ref (b + v0)), (1, .long v1)] [.int 1] (by decide +kernel) rfl rfl ?_
      refine jGoto C 22 (by decide +kernel : decode cX11_isWord 18 = .ok (.goto 4, 3)) rfl ?_
      exact jRetZ C (by decide +kernel : decode cX11_isWord 22 = .ok (.ireturn, 1)) (Nat.le_refl _) (Nat.le_refl _) (by decide) ⟨rfl, h⟩
theorem ok_X11_isWord {G : Gm} {v0 : Nat} {v1 : Int64} {S : St} {Q : Int32 → St → Prop}  (t_v0 : ok G 10 v0) (h : f_X11_isWord G v0 v1 Q S) : MT yX11_isWord cX11_isWord 3 (some .boolean) rm_X11_isWord 0 0 (fun b => [.ref (b + v0), .long v1]) G S (QI (fun r G1 S1 => G1 = G ∧ Q r S1)) := MT.ofJ (by decide +kernel) (fun b => [(0, .ref (b + v0)), (1, .long v1)]) (fun b => rfl) (fun b => Nat.le_of_ble_eq_true rfl) (fun l b D cy p e s m below meth c C hE hn => j_X11_isWord C hE t_v0 h)
theorem hd_X11_isWord : yX11_isWord.cls ≠ "java/lang/invoke/MethodHandle" ∧ yX11_isWord.cls ≠ "java/lang/invoke/VarHandle" ∧ (parseMethodDescriptor yX11_isWord.desc).map (fun d => d.parameters.length) = some 1 := by decide +kernel
abbrev rm_X11_behindTest : Room := { frames := 3, cells := 0, slots := 0, locals := 61 }
set_option maxHeartbeats 4000000 in
set_option maxRecDepth 100000 in
theorem j_X11_behindTest_66 {p : Program} {l : Launch} {e : Env} {s : State} {m : MethodId} {args : Array Value} {below : List Frame} {meth : Method} {c : Code} {b : Nat} {D : va_G} {cy : Nat → ClassId} {G : Gm} {v0 : Nat} {u0 : Int32} {u1 : Nat} {S : St} {Q : Int32 → St → Prop} (C : CX p s m args meth c b D cy cX11_behindTest RX11 2 (some .int)) (hE : s.heap.size + 0 ≤ b + G.2.2) (t_v0 : ok G 10 v0) (t_u1 : ok G 10 u1) (h : f_X11_behindTest_66 G v0 u0 u1 Q S) : J p l e rm_X11_behindTest s m args below meth c b D cy 2 (zI b D cy below args s G Q) 0 0 G S 66 [(0, .ref (b + v0))] [.int u0, .ref (b + u1)] := by
  unfold f_X11_behindTest_66 at h
  refine jB C [(.iconst 0, 1, 0)] 67 [(0, .ref (b + v0))] [.int 0, .int u0, .ref (b + u1)] (by decide +kernel) rfl rfl ?_
  refine jcV_V C 70 (rest := []) (ok_X11_emit t_u1 h) (by decide +kernel : decode cX11_behindTest 67 = .ok (.invokevirtual 317, 3)) rfl wd_1588 wd_1590 wp_134 wd_12 wd_1591 ⟨rfl, rfl⟩ hd_X11_emit ⟨Nat.le_of_ble_eq_true rfl, Nat.le_of_ble_eq_true rfl⟩ t_u1 kX11 (by decide) rfl rfl rfl (Nat.le_of_ble_eq_true rfl) ⟨Nat.zero_le _, Nat.zero_le _⟩ (fun S1 h => ?_)
  refine jB C [(.aload_n 0, 1, 0)] 71 [(0, .ref (b + v0))] [.ref (b + v0)] (by decide +kernel) rfl rfl ?_
  refine jcV_V C 74 (rest := []) (ok_X11_next t_v0 h) (by decide +kernel : decode cX11_behindTest 71 = .ok (.invokevirtual 275, 3)) rfl wd_1524 wd_1526 wp_121 wd_12 wd_1527 ⟨rfl, rfl⟩ hd_X11_next ⟨Nat.le_of_ble_eq_true rfl, Nat.le_of_ble_eq_true rfl⟩ t_v0 kX11 (by decide) rfl rfl rfl (Nat.le_of_ble_eq_true rfl) ⟨Nat.zero_le _, Nat.zero_le _⟩ (fun S2 h => ?_)
  refine jB C [(.iconst 0, 1, 0)] 75 [(0, .ref (b + v0))] [.int 0] (by decide +kernel) rfl rfl ?_
  exact jRetI C (by decide +kernel : decode cX11_behindTest 75 = .ok (.ireturn, 1)) (Nat.le_refl _) (Nat.le_refl _) ⟨rfl, h⟩
set_option maxHeartbeats 4000000 in
set_option maxRecDepth 100000 in
theorem j_X11_behindTest_47 {p : Program} {l : Launch} {e : Env} {s : State} {m : MethodId} {args : Array Value} {below : List Frame} {meth : Method} {c : Code} {b : Nat} {D : va_G} {cy : Nat → ClassId} {G : Gm} {v0 : Nat} {v1 : Int32} {u0 : Int32} {u1 : Nat} {S : St} {Q : Int32 → St → Prop} (C : CX p s m args meth c b D cy cX11_behindTest RX11 2 (some .int)) (hE : s.heap.size + 0 ≤ b + G.2.2) (t_v0 : ok G 10 v0) (t_u1 : ok G 10 u1) (h : f_X11_behindTest_47 G v0 v1 u0 u1 Q S) : J p l e rm_X11_behindTest s m args below meth c b D cy 2 (zI b D cy below args s G Q) 0 0 G S 47 [(0, .ref (b + v0)), (1, .int v1)] [.int u0, .ref (b + u1)] := by
  unfold f_X11_behindTest_47 at h
  refine jB C [(.aload_n 0, 1, 0)] 48 [(0, .ref (b + v0)), (1, .int v1)] [.ref (b + v0), .int u0, .ref (b + u1)] (by decide +kernel) rfl rfl ?_
  refine jGetI C 51 (by decide +kernel : decode cX11_behindTest 48 = .ok (.getfield 308, 3)) rfl t_v0 kX11 24 (by decide) rfl rfl (by decide) wd_1178 ?_
  refine jcV_V C 54 (rest := []) (ok_X11_push t_u1 h) (by decide +kernel : decode cX11_behindTest 51 = .ok (.invokevirtual 335, 3)) rfl wd_1559 wd_1561 wp_127 wd_12 wd_1562 ⟨rfl, rfl⟩ hd_X11_push ⟨Nat.le_of_ble_eq_true rfl, Nat.le_of_ble_eq_true rfl⟩ t_u1 kX11 (by decide) rfl rfl rfl (Nat.le_of_ble_eq_true rfl) ⟨Nat.zero_le _, Nat.zero_le _⟩ (fun S1 h => ?_)
  refine jB C [(.aload_n 0, 1, 0), (.iload_n 1, 1, 0)] 56 [(0, .ref (b + v0)), (1, .int v1)] [.int v1, .ref (b + v0)] (by decide +kernel) rfl rfl ?_
  refine jIf_eq C 59 64 (by decide +kernel : decode cX11_behindTest 56 = .ok (.ifCond .eq 8, 3)) rfl rfl (fun c2 => ?_) (fun c2 => ?_)
  · have h := it1 h c2
    refine jB C [(.bipush 30, 2, 30)] 66 [(0, .ref (b + v0)), (1, .int v1)] [.int 30, .ref (b + v0)] (by decide +kernel) rfl rfl ?_
    refine jSub [0] rfl ?_
    exact j_X11_behindTest_66 C hE t_v0 t_v0 h
  · have h := it2 h c2
    refine jB C [(.bipush 29, 2, 29)] 61 [(0, .ref (b + v0)), (1, .int v1)] [.int 29, .ref (b + v0)] (by decide +kernel) rfl rfl ?_
    refine jGoto C 66 (by decide +kernel : decode cX11_behindTest 61 = .ok (.goto 5, 3)) rfl ?_
    refine jSub [0] rfl ?_
    exact j_X11_behindTest_66 C hE t_v0 t_v0 h
set_option maxHeartbeats 4000000 in
set_option maxRecDepth 100000 in
theorem j_X11_behindTest_32 {p : Program} {l : Launch} {e : Env} {s : State} {m : MethodId} {args : Array Value} {below : List Frame} {meth : Method} {c : Code} {b : Nat} {D : va_G} {cy : Nat → ClassId} {G : Gm} {v0 : Nat} {v1 : Int32} {u0 : Int32} {u1 : Nat} {S : St} {Q : Int32 → St → Prop} (C : CX p s m args meth c b D cy cX11_behindTest RX11 2 (some .int)) (hE : s.heap.size + 0 ≤ b + G.2.2) (t_v0 : ok G 10 v0) (t_u1 : ok G 10 u1) (h : f_X11_behindTest_32 G v0 v1 u0 u1 Q S) : J p l e rm_X11_behindTest s m args below meth c b D cy 2 (zI b D cy below args s G Q) 0 0 G S 32 [(0, .ref (b + v0)), (1, .int v1)] [.int u0, .ref (b + u1)] := by
  unfold f_X11_behindTest_32 at h
  refine jcV_V C 35 (rest := []) (ok_X11_settle t_u1 h) (by decide +kernel : decode cX11_behindTest 32 = .ok (.invokevirtual 372, 3)) rfl wd_1603 wd_1605 wp_137 wd_12 wd_1606 ⟨rfl, rfl⟩ hd_X11_settle ⟨Nat.le_of_ble_eq_true rfl, Nat.le_of_ble_eq_true rfl⟩ t_u1 kX11 (by decide) rfl rfl rfl (Nat.le_of_ble_eq_true rfl) ⟨Nat.zero_le _, Nat.zero_le _⟩ (fun S1 h => ?_)
  refine jB C [(.aload_n 0, 1, 0), (.iload_n 1, 1, 0)] 37 [(0, .ref (b + v0)), (1, .int v1)] [.int v1, .ref (b + v0)] (by decide +kernel) rfl rfl ?_
  refine jIf_eq C 40 45 (by decide +kernel : decode cX11_behindTest 37 = .ok (.ifCond .eq 8, 3)) rfl rfl (fun c2 => ?_) (fun c2 => ?_)
  · have h := it1 h c2
    refine jB C [(.bipush 30, 2, 30)] 47 [(0, .ref (b + v0)), (1, .int v1)] [.int 30, .ref (b + v0)] (by decide +kernel) rfl rfl ?_
    refine jSub [0, 1] rfl ?_
    exact j_X11_behindTest_47 C hE t_v0 t_v0 h
  · have h := it2 h c2
    refine jB C [(.bipush 29, 2, 29)] 42 [(0, .ref (b + v0)), (1, .int v1)] [.int 29, .ref (b + v0)] (by decide +kernel) rfl rfl ?_
    refine jGoto C 47 (by decide +kernel : decode cX11_behindTest 42 = .ok (.goto 5, 3)) rfl ?_
    refine jSub [0, 1] rfl ?_
    exact j_X11_behindTest_47 C hE t_v0 t_v0 h
set_option maxHeartbeats 4000000 in
set_option maxRecDepth 100000 in
theorem j_X11_behindTest_22 {p : Program} {l : Launch} {e : Env} {s : State} {m : MethodId} {args : Array Value} {below : List Frame} {meth : Method} {c : Code} {b : Nat} {D : va_G} {cy : Nat → ClassId} {G : Gm} {v0 : Nat} {v1 : Int32} {S : St} {Q : Int32 → St → Prop} (C : CX p s m args meth c b D cy cX11_behindTest RX11 2 (some .int)) (hE : s.heap.size + 0 ≤ b + G.2.2) (t_v0 : ok G 10 v0) (h : f_X11_behindTest_22 G v0 v1 Q S) : J p l e rm_X11_behindTest s m args below meth c b D cy 2 (zI b D cy below args s G Q) 0 0 G S 22 [(0, .ref (b + v0)), (1, .int v1)] [] := by
  unfold f_X11_behindTest_22 at h
  refine jB C [(.aload_n 0, 1, 0), (.iload_n 1, 1, 0)] 24 [(0, .ref (b + v0)), (1, .int v1)] [.int v1, .ref (b + v0)] (by decide +kernel) rfl rfl ?_
  refine jIf_eq C 27 31 (by decide +kernel : decode cX11_behindTest 24 = .ok (.ifCond .eq 7, 3)) rfl rfl (fun c1 => ?_) (fun c1 => ?_)
  · have h := it1 h c1
    refine jB C [(.iconst 1, 1, 1)] 32 [(0, .ref (b + v0)), (1, .int v1)] [.int 1, .ref (b + v0)] (by decide +kernel) rfl rfl ?_
    refine jSub [0, 1] rfl ?_
    exact j_X11_behindTest_32 C hE t_v0 t_v0 h
  · have h := it2 h c1
    refine jB C [(.iconst 2, 1, 2)] 28 [(0, .ref (b + v0)), (1, .int v1)] [.int 2, .ref (b + v0)] (by decide +kernel) rfl rfl ?_
    refine jGoto C 32 (by decide +kernel : decode cX11_behindTest 28 = .ok (.goto 4, 3)) rfl ?_
    refine jSub [0, 1] rfl ?_
    exact j_X11_behindTest_32 C hE t_v0 t_v0 h
set_option maxHeartbeats 4000000 in
set_option maxRecDepth 100000 in
theorem j_X11_behindTest {p : Program} {l : Launch} {e : Env} {s : State} {m : MethodId} {args : Array Value} {below : List Frame} {meth : Method} {c : Code} {b : Nat} {D : va_G} {cy : Nat → ClassId} {G : Gm} {v0 : Nat} {S : St} {Q : Int32 → St → Prop} (C : CX p s m args meth c b D cy cX11_behindTest RX11 2 (some .int)) (hE : s.heap.size + 0 ≤ b + G.2.2) (t_v0 : ok G 10 v0) (h : f_X11_behindTest G v0 Q S) : J p l e rm_X11_behindTest s m args below meth c b D cy 2 (zI b D cy below args s G Q) 0 0 G S 0 [(0, .ref (b + v0))] [] := by
  unfold f_X11_behindTest at h
  refine jB C [(.aload_n 0, 1, 0)] 1 [(0, .ref (b + v0))] [.ref (b + v0)] (by decide +kernel) rfl rfl ?_
  refine jLdc2 C 4 (by decide +kernel : decode cX11_behindTest 1 = .ok (.ldc2_w 382, 3)) rfl wd_1623 ?_
  refine jcV_I C 7 (rest := []) (ok_X11_isWord t_v0 h) (by decide +kernel : decode cX11_behindTest 4 = .ok (.invokevirtual 328, 3)) rfl wd_1542 wd_1544 wp_123 wd_12 wd_1545 ⟨rfl, rfl⟩ hd_X11_isWord ⟨Nat.le_of_ble_eq_true rfl, Nat.le_of_ble_eq_true rfl⟩ t_v0 kX11 (by decide) rfl rfl rfl (Nat.le_of_ble_eq_true rfl) ⟨Nat.zero_le _, Nat.zero_le _⟩ (fun r2 S1 h => ?_)
  refine jB C [(.istore_n 1, 1, 0), (.iload_n 1, 1, 0)] 9 [(1, .int r2), (0, .ref (b + v0))] [.int r2] (by decide +kernel) rfl rfl ?_
  refine jIf_ne C 12 22 (by decide +kernel : decode cX11_behindTest 9 = .ok (.ifCond .ne 13, 3)) rfl rfl (fun c3 => ?_) (fun c3 => ?_)
  · have h := it2 h c3
    refine jSub [1, 0] rfl ?_
    exact j_X11_behindTest_22 C hE t_v0 h
  · have h := it1 h c3
    refine jB C [(.aload_n 0, 1, 0)] 13 [(1, .int r2), (0, .ref (b + v0))] [.ref (b + v0)] (by decide +kernel) rfl rfl ?_
    refine jLdc2 C 16 (by decide +kernel : decode cX11_behindTest 13 = .ok (.ldc2_w 384, 3)) rfl wd_1624 ?_
    refine jcV_I C 19 (rest := []) (ok_X11_isWord t_v0 h) (by decide +kernel : decode cX11_behindTest 16 = .ok (.invokevirtual 328, 3)) rfl wd_1542 wd_1544 wp_123 wd_12 wd_1545 ⟨rfl, rfl⟩ hd_X11_isWord ⟨Nat.le_of_ble_eq_true rfl, Nat.le_of_ble_eq_true rfl⟩ t_v0 kX11 (by decide) rfl rfl rfl (Nat.le_of_ble_eq_true rfl) ⟨Nat.zero_le _, Nat.zero_le _⟩ (fun r5 S4 h => ?_)
    refine jIf_eq C 22 76 (by decide +kernel : decode cX11_behindTest 19 = .ok (.ifCond .eq 57, 3)) rfl rfl (fun c6 => ?_) (fun c6 => ?_)
    · have h := it1 h c6
      refine jB C [(.aload_n 0, 1, 0)] 77 [(1, .int r2), (0, .ref (b + v0))] [.ref (b + v0)] (by decide +kernel) rfl rfl ?_
      refine jcV_I C 80 (rest := []) (ok_X11_inner t_v0 h) (by decide +kernel : decode cX11_behindTest 77 = .ok (.invokevirtual 375, 3)) rfl wd_1607 wd_1609 wp_138 wd_12 wd_1610 ⟨rfl, rfl⟩ hd_X11_inner ⟨Nat.le_of_ble_eq_true rfl, Nat.le_of_ble_eq_true rfl⟩ t_v0 kX11 (by decide) rfl rfl rfl (Nat.le_of_ble_eq_true rfl) ⟨Nat.zero_le _, Nat.zero_le _⟩ (fun r8 S7 h => ?_)
      refine jB C [(.iconst (-1), 1, (-1))] 81 [(1, .int r2), (0, .ref (b + v0))] [.int (-1), .int r8] (by decide +kernel) rfl rfl ?_
      refine jIcmp_ne C 84 86 (by decide +kernel : decode cX11_behindTest 81 = .ok (.if_icmp .ne 5, 3)) rfl rfl (fun c9 => ?_) (fun c9 => ?_)
      · have h := it2 h c9
        refine jB C [(.aload_n 0, 1, 0), (.aload_n 0, 1, 0), (.bipush 41, 2, 41)] 90 [(1, .int r2), (0, .ref (b + v0))] [.int 41, .ref (b + v0), .ref (b + v0)] (by decide +kernel) rfl rfl ?_
        refine jcV_I C 93 (rest := [.ref (b + v0)]) (ok_X11_isSign t_v0 h) (by decide +kernel : decode cX11_behindTest 90 = .ok (.invokevirtual 341, 3)) rfl wd_1563 wd_1565 wp_128 wd_12 wd_1566 ⟨rfl, rfl⟩ hd_X11_isSign ⟨Nat.le_of_ble_eq_true rfl, Nat.le_of_ble_eq_true rfl⟩ t_v0 kX11 (by decide) rfl rfl rfl (Nat.le_of_ble_eq_true rfl) ⟨Nat.zero_le _, Nat.zero_le _⟩ (fun r11 S10 h => ?_)
        refine jcV_V C 96 (rest := []) (ok_X11_must t_v0 h) (by decide +kernel : decode cX11_behindTest 93 = .ok (.invokevirtual 304, 3)) rfl wd_1546 wd_1548 wp_124 wd_12 wd_1549 ⟨rfl, rfl⟩ hd_X11_must ⟨Nat.le_of_ble_eq_true rfl, Nat.le_of_ble_eq_true rfl⟩ t_v0 kX11 (by decide) rfl rfl rfl (Nat.le_of_ble_eq_true rfl) ⟨Nat.zero_le _, Nat.zero_le _⟩ (fun S12 h => ?_)
        refine jB C [(.aload_n 0, 1, 0)] 97 [(1, .int r2), (0, .ref (b + v0))] [.ref (b + v0)] (by decide +kernel) rfl rfl ?_
        refine jGetI C 100 (by decide +kernel : decode cX11_behindTest 97 = .ok (.getfield 271, 3)) rfl t_v0 kX11 20 (by decide) rfl rfl (by decide) wd_1174 ?_
        refine jIf_ne C 103 128 (by decide +kernel : decode cX11_behindTest 100 = .ok (.ifCond .ne 28, 3)) rfl rfl (fun c13 => ?_) (fun c13 => ?_)
        · have h := it2 h c13
          refine jB C [(.iconst 2, 1, 2)] 129 [(1, .int r2), (0, .ref (b + v0))] [.int 2] (by decide +kernel) rfl rfl ?_
          exact jRetI C (by decide +kernel : decode cX11_behindTest 129 = .ok (.ireturn, 1)) (Nat.le_refl _) (Nat.le_refl _) ⟨rfl, h⟩
        · have h := it1 h c13
          refine jB C [(.aload_n 0, 1, 0), (.iconst 1, 1, 1)] 105 [(1, .int r2), (0, .ref (b + v0))] [.int 1, .ref (b + v0)] (by decide +kernel) rfl rfl ?_
          refine jcV_V C 108 (rest := []) (ok_X11_settle t_v0 h) (by decide +kernel : decode cX11_behindTest 105 = .ok (.invokevirtual 372, 3)) rfl wd_1603 wd_1605 wp_137 wd_12 wd_1606 ⟨rfl, rfl⟩ hd_X11_settle ⟨Nat.le_of_ble_eq_true rfl, Nat.le_of_ble_eq_true rfl⟩ t_v0 kX11 (by decide) rfl rfl rfl (Nat.le_of_ble_eq_true rfl) ⟨Nat.zero_le _, Nat.zero_le _⟩ (fun S14 h => ?_)
          refine jB C [(.aload_n 0, 1, 0), (.dup, 1, 0)] 110 [(1, .int r2), (0, .ref (b + v0))] [.ref (b + v0), .ref (b + v0)] (by decide +kernel) rfl rfl ?_
          refine jGetI C 113 (by decide +kernel : decode cX11_behindTest 110 = .ok (.getfield 311, 3)) rfl t_v0 kX11 30 (by decide) rfl rfl (by decide) wd_1184 ?_
          refine jB C [(.iconst 1, 1, 1), (.isub, 1, 0)] 115 [(1, .int r2), (0, .ref (b + v0))] [.int ((S14.1 v0 30) - 1), .ref (b + v0)] (by decide +kernel) rfl rfl ?_
          refine jPutI C 118 (by decide +kernel : decode cX11_behindTest 115 = .ok (.putfield 311, 3)) rfl hE t_v0 kX11 30 (by decide) rfl rfl (by decide) rfl wd_1184 rfl rfl rfl ?_
          refine jTopS (fun S15 e_S15 => ?_)
          have h := h S15 e_S15
          refine jB C [(.aload_n 0, 1, 0), (.dup, 1, 0)] 120 [(1, .int r2), (0, .ref (b + v0))] [.ref (b + v0), .ref (b + v0)] (by decide +kernel) rfl rfl ?_
          refine jGetI C 123 (by decide +kernel : decode cX11_behindTest 120 = .ok (.getfield 332, 3)) rfl t_v0 kX11 31 (by decide) rfl rfl (by decide) wd_1185 ?_
          refine jB C [(.iconst 1, 1, 1), (.isub, 1, 0)] 125 [(1, .int r2), (0, .ref (b + v0))] [.int ((S15.1 v0 31) - 1), .ref (b + v0)] (by decide +kernel) rfl rfl ?_
          refine jPutI C 128 (by decide +kernel : decode cX11_behindTest 125 = .ok (.putfield 332, 3)) rfl hE t_v0 kX11 31 (by decide) rfl rfl (by decide) rfl wd_1185 rfl rfl rfl ?_
          refine jTopS (fun S16 e_S16 => ?_)
          have h := h S16 e_S16
          refine jB C [(.iconst 2, 1, 2)] 129 [(1, .int r2), (0, .ref (b + v0))] [.int 2] (by decide +kernel) rfl rfl ?_
          exact jRetI C (by decide +kernel : decode cX11_behindTest 129 = .ok (.ireturn, 1)) (Nat.le_refl _) (Nat.le_refl _) ⟨rfl, h⟩
      · have h := it1 h c9
        refine jB C [(.iconst 4, 1, 4)] 85 [(1, .int r2), (0, .ref (b + v0))] [.int 4] (by decide +kernel) rfl rfl ?_
        exact jRetI C (by decide +kernel : decode cX11_behindTest 85 = .ok (.ireturn, 1)) (Nat.le_refl _) (Nat.le_refl _) ⟨rfl, h⟩
    · have h := it2 h c6
      refine jSub [1, 0] rfl ?_
      exact j_X11_behindTest_22 C hE t_v0 h
theorem ok_X11_behindTest {G : Gm} {v0 : Nat} {S : St} {Q : Int32 → St → Prop}  (t_v0 : ok G 10 v0) (h : f_X11_behindTest G v0 Q S) : MT yX11_behindTest cX11_behindTest 2 (some .int) rm_X11_behindTest 0 0 (fun b => [.ref (b + v0)]) G S (QI (fun r G1 S1 => G1 = G ∧ Q r S1)) := MT.ofJ (by decide +kernel) (fun b => [(0, .ref (b + v0))]) (fun b => rfl) (fun b => Nat.le_of_ble_eq_true rfl) (fun l b D cy p e s m below meth c C hE hn => j_X11_behindTest C hE t_v0 h)
theorem hd_X11_behindTest : yX11_behindTest.cls ≠ "java/lang/invoke/MethodHandle" ∧ yX11_behindTest.cls ≠ "java/lang/invoke/VarHandle" ∧ (parseMethodDescriptor yX11_behindTest.desc).map (fun d => d.parameters.length) = some 0 := by decide +kernel
abbrev rm_X11_change : Room := { frames := 0, cells := 0, slots := 0, locals := 0 }
set_option maxHeartbeats 4000000 in
set_option maxRecDepth 100000 in
theorem j_X11_change {p : Program} {l : Launch} {e : Env} {s : State} {m : MethodId} {args : Array Value} {below : List Frame} {meth : Method} {c : Code} {b : Nat} {D : va_G} {cy : Nat → ClassId} {G : Gm} {v0 : Nat} {v1 : Int32} {v2 : Int32} {S : St} {Q : Int32 → St → Prop} (C : CX p s m args meth c b D cy cX11_change RX11 4 (some .int)) (hE : s.heap.size + 0 ≤ b + G.2.2) (t_v0 : ok G 10 v0) (h : f_X11_change G v0 v1 v2 Q S) : J p l e rm_X11_change s m args below meth c b D cy 4 (zI b D cy below args s G Q) 0 0 G S 0 [(0, .ref (b + v0)), (1, .int v1), (2, .int v2)] [] := by
  unfold f_X11_change at h
  refine jB C [(.aload_n 0, 1, 0)] 1 [(0, .ref (b + v0)), (1, .int v1), (2, .int v2)] [.ref (b + v0)] (by decide +kernel) rfl rfl ?_
  obtain ⟨a1, e_a1, h⟩ := h
  refine jGetR C 4 (by decide +kernel : decode cX11_change 1 = .ok (.getfield 16, 3)) rfl t_v0 kX11 4 (by decide) rfl rfl (by decide) wd_1158 e_a1 rfl (fun t_a1 => ?_)
  refine jB C [(.iload_n 1, 1, 0)] 5 [(0, .ref (b + v0)), (1, .int v1), (2, .int v2)] [.int v1, .ref (b + a1)] (by decide +kernel) rfl rfl ?_
  obtain ⟨y2, h⟩ := h
  refine jIald C 6 (by decide +kernel : decode cX11_change 5 = .ok (.iaload, 1)) rfl t_a1 y2 ?_
  refine jTopI (fun x3 e_x3 => ?_)
  have h := h x3 e_x3
  refine jB C [(.istore_n 3, 1, 0), (.aload_n 0, 1, 0)] 8 [(3, .int x3), (0, .ref (b + v0)), (1, .int v1), (2, .int v2)] [.ref (b + v0)] (by decide +kernel) rfl rfl ?_
  obtain ⟨a4, e_a4, h⟩ := h
  refine jGetR C 11 (by decide +kernel : decode cX11_change 8 = .ok (.getfield 16, 3)) rfl t_v0 kX11 4 (by decide) rfl rfl (by decide) wd_1158 e_a4 rfl (fun t_a4 => ?_)
  refine jB C [(.iload_n 1, 1, 0), (.iload_n 2, 1, 0)] 13 [(3, .int x3), (0, .ref (b + v0)), (1, .int v1), (2, .int v2)] [.int v2, .int v1, .ref (b + a4)] (by decide +kernel) rfl rfl ?_
  obtain ⟨y5, h⟩ := h
  refine jIast C 14 (by decide +kernel : decode cX11_change 13 = .ok (.iastore, 1)) rfl hE t_a4 y5 ?_
  refine jTopS (fun S6 e_S6 => ?_)
  have h := h S6 e_S6
  refine jB C [(.aload_n 0, 1, 0), (.iconst 0, 1, 0)] 16 [(3, .int x3), (0, .ref (b + v0)), (1, .int v1), (2, .int v2)] [.int 0, .ref (b + v0)] (by decide +kernel) rfl rfl ?_
  refine jPutI C 19 (by decide +kernel : decode cX11_change 16 = .ok (.putfield 168, 3)) rfl hE t_v0 kX11 1 (by decide) rfl rfl (by decide) rfl wd_1155 rfl rfl rfl ?_
  refine jTopS (fun S7 e_S7 => ?_)
  have h := h S7 e_S7
  refine jB C [(.iload_n 3, 1, 0)] 20 [(3, .int x3), (0, .ref (b + v0)), (1, .int v1), (2, .int v2)] [.int x3] (by decide +kernel) rfl rfl ?_
  exact jRetI C (by decide +kernel : decode cX11_change 20 = .ok (.ireturn, 1)) (Nat.le_refl _) (Nat.le_refl _) ⟨rfl, h⟩
theorem ok_X11_change {G : Gm} {v0 : Nat} {v1 : Int32} {v2 : Int32} {S : St} {Q : Int32 → St → Prop}  (t_v0 : ok G 10 v0) (h : f_X11_change G v0 v1 v2 Q S) : MT yX11_change cX11_change 4 (some .int) rm_X11_change 0 0 (fun b => [.ref (b + v0), .int v1, .int v2]) G S (QI (fun r G1 S1 => G1 = G ∧ Q r S1)) := MT.ofJ (by decide +kernel) (fun b => [(0, .ref (b + v0)), (1, .int v1), (2, .int v2)]) (fun b => rfl) (fun b => Nat.le_of_ble_eq_true rfl) (fun l b D cy p e s m below meth c C hE hn => j_X11_change C hE t_v0 h)
theorem hd_X11_change : yX11_change.cls ≠ "java/lang/invoke/MethodHandle" ∧ yX11_change.cls ≠ "java/lang/invoke/VarHandle" ∧ (parseMethodDescriptor yX11_change.desc).map (fun d => d.parameters.length) = some 2 := by decide +kernel
abbrev rm_X11_cloth : Room := { frames := 3, cells := 0, slots := 0, locals := 68 }
set_option maxHeartbeats 4000000 in
set_option maxRecDepth 100000 in
theorem j_X11_cloth {p : Program} {l : Launch} {e : Env} {s : State} {m : MethodId} {args : Array Value} {below : List Frame} {meth : Method} {c : Code} {b : Nat} {D : va_G} {cy : Nat → ClassId} {G : Gm} {v0 : Nat} {v1 : Int32} {S : St} {Q : Int32 → St → Prop} (C : CX p s m args meth c b D cy cX11_cloth RX11 2 (some .int)) (hE : s.heap.size + 0 ≤ b + G.2.2) (t_v0 : ok G 10 v0) (h : f_X11_cloth G v0 v1 Q S) : J p l e rm_X11_cloth s m args below meth c b D cy 2 (zI b D cy below args s G Q) 0 0 G S 0 [(0, .ref (b + v0)), (1, .int v1)] [] := by
  unfold f_X11_cloth at h
  refine jB C [(.aload_n 0, 1, 0), (.iconst 0, 1, 0)] 2 [(0, .ref (b + v0)), (1, .int v1)] [.int 0, .ref (b + v0)] (by decide +kernel) rfl rfl ?_
  refine jPutI C 5 (by decide +kernel : decode cX11_cloth 2 = .ok (.putfield 165, 3)) rfl hE t_v0 kX11 0 (by decide) rfl rfl (by decide) rfl wd_1154 rfl rfl rfl ?_
  refine jTopS (fun S1 e_S1 => ?_)
  have h := h S1 e_S1
  refine jB C [(.aload_n 0, 1, 0), (.aload_n 0, 1, 0), (.iload_n 1, 1, 0)] 8 [(0, .ref (b + v0)), (1, .int v1)] [.int v1, .ref (b + v0), .ref (b + v0)] (by decide +kernel) rfl rfl ?_
  refine jcV_I C 11 (rest := [.ref (b + v0)]) (ok_X11_clothNow t_v0 h) (by decide +kernel : decode cX11_cloth 8 = .ok (.invokevirtual 486, 3)) rfl wd_1687 wd_1689 wp_151 wd_12 wd_1690 ⟨rfl, rfl⟩ hd_X11_clothNow ⟨Nat.le_of_ble_eq_true rfl, Nat.le_of_ble_eq_true rfl⟩ t_v0 kX11 (by decide) rfl rfl rfl (Nat.le_of_ble_eq_true rfl) ⟨Nat.zero_le _, Nat.zero_le _⟩ (fun r3 S2 h => ?_)
  refine jcV_I C 14 (rest := []) (ok_X11_tell t_v0 h) (by decide +kernel : decode cX11_cloth 11 = .ok (.invokevirtual 174, 3)) rfl wd_1340 wd_1342 wp_99 wd_12 wd_1343 ⟨rfl, rfl⟩ hd_X11_tell ⟨Nat.le_of_ble_eq_true rfl, Nat.le_of_ble_eq_true rfl⟩ t_v0 kX11 (by decide) rfl rfl rfl (Nat.le_of_ble_eq_true rfl) ⟨Nat.zero_le _, Nat.zero_le _⟩ (fun r5 S4 h => ?_)
  exact jRetI C (by decide +kernel : decode cX11_cloth 14 = .ok (.ireturn, 1)) (Nat.le_refl _) (Nat.le_refl _) ⟨rfl, h⟩
theorem ok_X11_cloth {G : Gm} {v0 : Nat} {v1 : Int32} {S : St} {Q : Int32 → St → Prop}  (t_v0 : ok G 10 v0) (h : f_X11_cloth G v0 v1 Q S) : MT yX11_cloth cX11_cloth 2 (some .int) rm_X11_cloth 0 0 (fun b => [.ref (b + v0), .int v1]) G S (QI (fun r G1 S1 => G1 = G ∧ Q r S1)) := MT.ofJ (by decide +kernel) (fun b => [(0, .ref (b + v0)), (1, .int v1)]) (fun b => rfl) (fun b => Nat.le_of_ble_eq_true rfl) (fun l b D cy p e s m below meth c C hE hn => j_X11_cloth C hE t_v0 h)
theorem hd_X11_cloth : yX11_cloth.cls ≠ "java/lang/invoke/MethodHandle" ∧ yX11_cloth.cls ≠ "java/lang/invoke/VarHandle" ∧ (parseMethodDescriptor yX11_cloth.desc).map (fun d => d.parameters.length) = some 1 := by decide +kernel
abbrev rm_X11_come : Room := { frames := 7, cells := 0, slots := 0, locals := 165 }
set_option maxHeartbeats 4000000 in
set_option maxRecDepth 100000 in
theorem j_X11_come_59_n {p : Program} {l : Launch} {e : Env} {s : State} {m : MethodId} {args : Array Value} {below : List Frame} {meth : Method} {c : Code} {b : Nat} {D : va_G} {cy : Nat → ClassId} {G : Gm} {v0 : Nat} {v1 : Int32} {v2 : Int32} {v3 : Int32} {v4 : Int32} {v5 : Int32} {Q : Int32 → St → Prop} (C : CX p s m args meth c b D cy cX11_come RX11 8 (some .int)) (hE : s.heap.size + 0 ≤ b + G.2.2) (t_v0 : ok G 10 v0) : ∀ k (v6 : Int32) (v7 : Int32) S, f_X11_come_59_n G v0 v1 v2 v3 v4 v5 Q k v6 v7 S → J p l e rm_X11_come s m args below meth c b D cy 8 (zI b D cy below args s G Q) 0 0 G S 59 [(0, .ref (b + v0)), (1, .int v1), (2, .int v2), (3, .int v3), (4, .int v4), (5, .int v5), (6, .int v6), (7, .int v7)] [] := by
  intro k
  induction k with
  | zero => intro v6 v7 S h; exact h.elim
  | succ k ih =>
    intro v6 v7 S h
    unfold f_X11_come_59_n at h
    refine jB C [(.iload 7, 2, 0), (.bipush 8, 2, 8)] 63 [(0, .ref (b + v0)), (1, .int v1), (2, .int v2), (3, .int v3), (4, .int v4), (5, .int v5), (6, .int v6), (7, .int v7)] [.int 8, .int v7] (by decide +kernel) rfl rfl ?_
    refine jIcmp_gt C 66 104 (by decide +kernel : decode cX11_come 63 = .ok (.if_icmp .gt 41, 3)) rfl rfl (fun c1 => ?_) (fun c1 => ?_)
    · have h := it1 h c1
      refine jB C [(.aload_n 0, 1, 0)] 105 [(0, .ref (b + v0)), (1, .int v1), (2, .int v2), (3, .int v3), (4, .int v4), (5, .int v5), (6, .int v6), (7, .int v7)] [.ref (b + v0)] (by decide +kernel) rfl rfl ?_
      obtain ⟨a2, e_a2, h⟩ := h
      refine jGetR C 108 (by decide +kernel : decode cX11_come 105 = .ok (.getfield 16, 3)) rfl t_v0 kX11 4 (by decide) rfl rfl (by decide) wd_1158 e_a2 rfl (fun t_a2 => ?_)
      refine jB C [(.iload 4, 2, 0), (.iload 5, 2, 0)] 112 [(0, .ref (b + v0)), (1, .int v1), (2, .int v2), (3, .int v3), (4, .int v4), (5, .int v5), (6, .int v6), (7, .int v7)] [.int v5, .int v4, .ref (b + a2)] (by decide +kernel) rfl rfl ?_
      obtain ⟨y3, h⟩ := h
      refine jIast C 113 (by decide +kernel : decode cX11_come 112 = .ok (.iastore, 1)) rfl hE t_a2 y3 ?_
      refine jTopS (fun S4 e_S4 => ?_)
      have h := h S4 e_S4
      refine jB C [(.iload 6, 2, 0)] 115 [(0, .ref (b + v0)), (1, .int v1), (2, .int v2), (3, .int v3), (4, .int v4), (5, .int v5), (6, .int v6), (7, .int v7)] [.int v6] (by decide +kernel) rfl rfl ?_
      exact jRetI C (by decide +kernel : decode cX11_come 115 = .ok (.ireturn, 1)) (Nat.le_refl _) (Nat.le_refl _) ⟨rfl, h⟩
    · have h := it2 h c1
      refine jB C [(.aload_n 0, 1, 0)] 67 [(0, .ref (b + v0)), (1, .int v1), (2, .int v2), (3, .int v3), (4, .int v4), (5, .int v5), (6, .int v6), (7, .int v7)] [.ref (b + v0)] (by decide +kernel) rfl rfl ?_
      obtain ⟨a5, e_a5, h⟩ := h
      refine jGetR C 70 (by decide +kernel : decode cX11_come 67 = .ok (.getfield 16, 3)) rfl t_v0 kX11 4 (by decide) rfl rfl (by decide) wd_1158 e_a5 rfl (fun t_a5 => ?_)
      refine jB C [(.iload 4, 2, 0), (.iload 7, 2, 0)] 74 [(0, .ref (b + v0)), (1, .int v1), (2, .int v2), (3, .int v3), (4, .int v4), (5, .int v5), (6, .int v6), (7, .int v7)] [.int v7, .int v4, .ref (b + a5)] (by decide +kernel) rfl rfl ?_
      obtain ⟨y6, h⟩ := h
      refine jIast C 75 (by decide +kernel : decode cX11_come 74 = .ok (.iastore, 1)) rfl hE t_a5 y6 ?_
      refine jTopS (fun S7 e_S7 => ?_)
      have h := h S7 e_S7
      refine jB C [(.iload 6, 2, 0), (.aload_n 0, 1, 0), (.iload_n 1, 1, 0), (.iload_n 2, 1, 0)] 80 [(0, .ref (b + v0)), (1, .int v1), (2, .int v2), (3, .int v3), (4, .int v4), (5, .int v5), (6, .int v6), (7, .int v7)] [.int v2, .int v1, .ref (b + v0), .int v6] (by decide +kernel) rfl rfl ?_
      refine jcV_I C 83 (rest := [.int v6]) (ok_X11_grindsOf t_v0 h) (by decide +kernel : decode cX11_come 80 = .ok (.invokevirtual 227, 3)) rfl wd_1441 wd_1443 wp_114 wd_12 wd_1444 ⟨rfl, rfl⟩ hd_X11_grindsOf ⟨Nat.le_of_ble_eq_true rfl, Nat.le_of_ble_eq_true rfl⟩ t_v0 kX11 (by decide) rfl rfl rfl (Nat.le_of_ble_eq_true rfl) ⟨Nat.zero_le _, Nat.zero_le _⟩ (fun r9 S8 h => ?_)
      refine jB C [(.iload_n 3, 1, 0)] 84 [(0, .ref (b + v0)), (1, .int v1), (2, .int v2), (3, .int v3), (4, .int v4), (5, .int v5), (6, .int v6), (7, .int v7)] [.int v3, .int r9, .int v6] (by decide +kernel) rfl rfl ?_
      refine jIcmp_ne C 87 94 (by decide +kernel : decode cX11_come 84 = .ok (.if_icmp .ne 10, 3)) rfl rfl (fun c10 => ?_) (fun c10 => ?_)
      · have h := it2 h c10
        refine jB C [(.iconst 0, 1, 0), (.ior, 1, 0)] 96 [(0, .ref (b + v0)), (1, .int v1), (2, .int v2), (3, .int v3), (4, .int v4), (5, .int v5), (6, .int v6), (7, .int v7)] [.int (v6 ||| 0)] (by decide +kernel) rfl rfl ?_
        refine jTopI (fun x11 e_x11 => ?_)
        have h := h x11 e_x11
        refine jB C [(.istore 6, 2, 0), (.iinc 7 1, 3, 1)] 101 [(7, .int (v7 + 1)), (6, .int x11), (0, .ref (b + v0)), (1, .int v1), (2, .int v2), (3, .int v3), (4, .int v4), (5, .int v5)] [] (by decide +kernel) rfl rfl ?_
        refine jGoto C 59 (by decide +kernel : decode cX11_come 101 = .ok (.goto (-42), 3)) rfl ?_
        refine jSub [2, 3, 4, 5, 6, 7, 1, 0] rfl ?_
        exact ih x11 (v7 + 1) S8 h
      · have h := it1 h c10
        refine jB C [(.iconst 1, 1, 1), (.iload 7, 2, 0), (.ishl, 1, 0)] 91 [(0, .ref (b + v0)), (1, .int v1), (2, .int v2), (3, .int v3), (4, .int v4), (5, .int v5), (6, .int v6), (7, .int v7)] [.int (1 <<< ((v7 : Int32) &&& 31)), .int v6] (by decide +kernel) rfl rfl ?_
        refine jGoto C 95 (by decide +kernel : decode cX11_come 91 = .ok (.goto 4, 3)) rfl ?_
        refine jB C [(.ior, 1, 0)] 96 [(0, .ref (b + v0)), (1, .int v1), (2, .int v2), (3, .int v3), (4, .int v4), (5, .int v5), (6, .int v6), (7, .int v7)] [.int (v6 ||| (1 <<< ((v7 : Int32) &&& 31)))] (by decide +kernel) rfl rfl ?_
        refine jTopI (fun x12 e_x12 => ?_)
        have h := h x12 e_x12
        refine jB C [(.istore 6, 2, 0), (.iinc 7 1, 3, 1)] 101 [(7, .int (v7 + 1)), (6, .int x12), (0, .ref (b + v0)), (1, .int v1), (2, .int v2), (3, .int v3), (4, .int v4), (5, .int v5)] [] (by decide +kernel) rfl rfl ?_
        refine jGoto C 59 (by decide +kernel : decode cX11_come 101 = .ok (.goto (-42), 3)) rfl ?_
        refine jSub [2, 3, 4, 5, 6, 7, 1, 0] rfl ?_
        exact ih x12 (v7 + 1) S8 h
theorem j_X11_come_59 {p : Program} {l : Launch} {e : Env} {s : State} {m : MethodId} {args : Array Value} {below : List Frame} {meth : Method} {c : Code} {b : Nat} {D : va_G} {cy : Nat → ClassId} {G : Gm} {v0 : Nat} {v1 : Int32} {v2 : Int32} {v3 : Int32} {v4 : Int32} {v5 : Int32} {v6 : Int32} {v7 : Int32} {S : St} {Q : Int32 → St → Prop} (C : CX p s m args meth c b D cy cX11_come RX11 8 (some .int)) (hE : s.heap.size + 0 ≤ b + G.2.2) (t_v0 : ok G 10 v0) (h : f_X11_come_59 G v0 v1 v2 v3 v4 v5 Q v6 v7 S) : J p l e rm_X11_come s m args below meth c b D cy 8 (zI b D cy below args s G Q) 0 0 G S 59 [(0, .ref (b + v0)), (1, .int v1), (2, .int v2), (3, .int v3), (4, .int v4), (5, .int v5), (6, .int v6), (7, .int v7)] [] := by
  obtain ⟨k, h⟩ := h
  exact j_X11_come_59_n C hE t_v0 k v6 v7 S h
set_option maxHeartbeats 4000000 in
set_option maxRecDepth 100000 in
theorem j_X11_come {p : Program} {l : Launch} {e : Env} {s : State} {m : MethodId} {args : Array Value} {below : List Frame} {meth : Method} {c : Code} {b : Nat} {D : va_G} {cy : Nat → ClassId} {G : Gm} {v0 : Nat} {v1 : Int32} {v2 : Int32} {v3 : Int32} {S : St} {Q : Int32 → St → Prop} (C : CX p s m args meth c b D cy cX11_come RX11 8 (some .int)) (hE : s.heap.size + 0 ≤ b + G.2.2) (t_v0 : ok G 10 v0) (h : f_X11_come G v0 v1 v2 v3 Q S) : J p l e rm_X11_come s m args below meth c b D cy 8 (zI b D cy below args s G Q) 0 0 G S 0 [(0, .ref (b + v0)), (1, .int v1), (2, .int v2), (3, .int v3)] [] := by
  unfold f_X11_come at h
  refine jB C [(.aload_n 0, 1, 0), (.iconst 0, 1, 0)] 2 [(0, .ref (b + v0)), (1, .int v1), (2, .int v2), (3, .int v3)] [.int 0, .ref (b + v0)] (by decide +kernel) rfl rfl ?_
  refine jPutI C 5 (by decide +kernel : decode cX11_come 2 = .ok (.putfield 165, 3)) rfl hE t_v0 kX11 0 (by decide) rfl rfl (by decide) rfl wd_1154 rfl rfl rfl ?_
  refine jTopS (fun S1 e_S1 => ?_)
  have h := h S1 e_S1
  refine jB C [(.aload_n 0, 1, 0), (.iload_n 1, 1, 0)] 7 [(0, .ref (b + v0)), (1, .int v1), (2, .int v2), (3, .int v3)] [.int v1, .ref (b + v0)] (by decide +kernel) rfl rfl ?_
  refine jcV_I C 10 (rest := []) (ok_X11_isPerson t_v0 h) (by decide +kernel : decode cX11_come 7 = .ok (.invokevirtual 209, 3)) rfl wd_1376 wd_1378 wp_103 wd_12 wd_1379 ⟨rfl, rfl⟩ hd_X11_isPerson ⟨Nat.le_of_ble_eq_true rfl, Nat.le_of_ble_eq_true rfl⟩ t_v0 kX11 (by decide) rfl rfl rfl (Nat.le_of_ble_eq_true rfl) ⟨Nat.zero_le _, Nat.zero_le _⟩ (fun r3 S2 h => ?_)
  refine jIf_eq C 13 32 (by decide +kernel : decode cX11_come 10 = .ok (.ifCond .eq 22, 3)) rfl rfl (fun c4 => ?_) (fun c4 => ?_)
  · have h := it1 h c4
    refine jB C [(.iconst (-1), 1, (-1))] 33 [(0, .ref (b + v0)), (1, .int v1), (2, .int v2), (3, .int v3)] [.int (-1)] (by decide +kernel) rfl rfl ?_
    exact jRetI C (by decide +kernel : decode cX11_come 33 = .ok (.ireturn, 1)) (Nat.le_refl _) (Nat.le_refl _) ⟨rfl, h⟩
  · have h := it2 h c4
    refine jB C [(.iload_n 2, 1, 0)] 14 [(0, .ref (b + v0)), (1, .int v1), (2, .int v2), (3, .int v3)] [.int v2] (by decide +kernel) rfl rfl ?_
    refine jcS_I C 17 (rest := []) (ok_X11_isKind h) (by decide +kernel : decode cX11_come 14 = .ok (.invokestatic 224, 3)) rfl wd_1438 wd_1439 wd_12 wd_1440 ⟨rfl, rfl⟩ hd_X11_isKind ⟨Nat.le_of_ble_eq_true rfl, Nat.le_of_ble_eq_true rfl⟩ rfl rfl (Nat.le_of_ble_eq_true rfl) ⟨Nat.zero_le _, Nat.zero_le _⟩ (fun r6 S5 h => ?_)
    refine jIf_eq C 20 32 (by decide +kernel : decode cX11_come 17 = .ok (.ifCond .eq 15, 3)) rfl rfl (fun c7 => ?_) (fun c7 => ?_)
    · have h := it1 h c7
      refine jB C [(.iconst (-1), 1, (-1))] 33 [(0, .ref (b + v0)), (1, .int v1), (2, .int v2), (3, .int v3)] [.int (-1)] (by decide +kernel) rfl rfl ?_
      exact jRetI C (by decide +kernel : decode cX11_come 33 = .ok (.ireturn, 1)) (Nat.le_refl _) (Nat.le_refl _) ⟨rfl, h⟩
    · have h := it2 h c7
      refine jB C [(.iload_n 3, 1, 0), (.i2l, 1, 0), (.lconst 0, 1, 0)] 23 [(0, .ref (b + v0)), (1, .int v1), (2, .int v2), (3, .int v3)] [.long 0, .long v3.toInt64] (by decide +kernel) rfl rfl ?_
      refine jLdc2 C 26 (by decide +kernel : decode cX11_come 23 = .ok (.ldc2_w 245, 3)) rfl wd_1473 ?_
      refine jcS_I C 29 (rest := []) (ok_X11_in h) (by decide +kernel : decode cX11_come 26 = .ok (.invokestatic 185, 3)) rfl wd_1352 wd_1353 wd_12 wd_1354 ⟨rfl, rfl⟩ hd_X11_in ⟨Nat.le_of_ble_eq_true rfl, Nat.le_of_ble_eq_true rfl⟩ rfl rfl (Nat.le_of_ble_eq_true rfl) ⟨Nat.zero_le _, Nat.zero_le _⟩ (fun r9 S8 h => ?_)
      refine jIf_ne C 32 34 (by decide +kernel : decode cX11_come 29 = .ok (.ifCond .ne 5, 3)) rfl rfl (fun c10 => ?_) (fun c10 => ?_)
      · have h := it2 h c10
        refine jB C [(.bipush 8, 2, 8), (.iconst 4, 1, 4), (.iload_n 1, 1, 0), (.imul, 1, 0), (.iadd, 1, 0), (.iload_n 2, 1, 0), (.iadd, 1, 0)] 42 [(0, .ref (b + v0)), (1, .int v1), (2, .int v2), (3, .int v3)] [.int ((8 + (4 * v1)) + v2)] (by decide +kernel) rfl rfl ?_
        refine jTopI (fun x11 e_x11 => ?_)
        have h := h x11 e_x11
        refine jB C [(.istore 4, 2, 0), (.aload_n 0, 1, 0)] 45 [(4, .int x11), (0, .ref (b + v0)), (1, .int v1), (2, .int v2), (3, .int v3)] [.ref (b + v0)] (by decide +kernel) rfl rfl ?_
        obtain ⟨a12, e_a12, h⟩ := h
        refine jGetR C 48 (by decide +kernel : decode cX11_come 45 = .ok (.getfield 16, 3)) rfl t_v0 kX11 4 (by decide) rfl rfl (by decide) wd_1158 e_a12 rfl (fun t_a12 => ?_)
        refine jB C [(.iload 4, 2, 0)] 50 [(4, .int x11), (0, .ref (b + v0)), (1, .int v1), (2, .int v2), (3, .int v3)] [.int x11, .ref (b + a12)] (by decide +kernel) rfl rfl ?_
        obtain ⟨y13, h⟩ := h
        refine jIald C 51 (by decide +kernel : decode cX11_come 50 = .ok (.iaload, 1)) rfl t_a12 y13 ?_
        refine jTopI (fun x14 e_x14 => ?_)
        have h := h x14 e_x14
        refine jB C [(.istore 5, 2, 0), (.iconst 0, 1, 0), (.istore 6, 2, 0), (.iconst 0, 1, 0), (.istore 7, 2, 0)] 59 [(7, .int 0), (6, .int 0), (5, .int x14), (4, .int x11), (0, .ref (b + v0)), (1, .int v1), (2, .int v2), (3, .int v3)] [] (by decide +kernel) rfl rfl ?_
        refine jSub [4, 5, 6, 7, 3, 2, 1, 0] rfl ?_
        exact j_X11_come_59 C hE t_v0 h
      · have h := it1 h c10
        refine jB C [(.iconst (-1), 1, (-1))] 33 [(0, .ref (b + v0)), (1, .int v1), (2, .int v2), (3, .int v3)] [.int (-1)] (by decide +kernel) rfl rfl ?_
        exact jRetI C (by decide +kernel : decode cX11_come 33 = .ok (.ireturn, 1)) (Nat.le_refl _) (Nat.le_refl _) ⟨rfl, h⟩
theorem ok_X11_come {G : Gm} {v0 : Nat} {v1 : Int32} {v2 : Int32} {v3 : Int32} {S : St} {Q : Int32 → St → Prop}  (t_v0 : ok G 10 v0) (h : f_X11_come G v0 v1 v2 v3 Q S) : MT yX11_come cX11_come 8 (some .int) rm_X11_come 0 0 (fun b => [.ref (b + v0), .int v1, .int v2, .int v3]) G S (QI (fun r G1 S1 => G1 = G ∧ Q r S1)) := MT.ofJ (by decide +kernel) (fun b => [(0, .ref (b + v0)), (1, .int v1), (2, .int v2), (3, .int v3)]) (fun b => rfl) (fun b => Nat.le_of_ble_eq_true rfl) (fun l b D cy p e s m below meth c C hE hn => j_X11_come C hE t_v0 h)
theorem hd_X11_come : yX11_come.cls ≠ "java/lang/invoke/MethodHandle" ∧ yX11_come.cls ≠ "java/lang/invoke/VarHandle" ∧ (parseMethodDescriptor yX11_come.desc).map (fun d => d.parameters.length) = some 3 := by decide +kernel
abbrev rm_X11_come1 : Room := { frames := 1, cells := 0, slots := 0, locals := 25 }
set_option maxHeartbeats 4000000 in
set_option maxRecDepth 100000 in
theorem j_X11_come1_131_n {p : Program} {l : Launch} {e : Env} {s : State} {m : MethodId} {args : Array Value} {below : List Frame} {meth : Method} {c : Code} {b : Nat} {D : va_G} {cy : Nat → ClassId} {G : Gm} {v0 : Nat} {v5 : Int32} {Q : Int32 → St → Prop} (C : CX p s m args meth c b D cy cX11_come1 RX11 7 (some .int)) (hE : s.heap.size + 0 ≤ b + G.2.2) (t_v0 : ok G 10 v0) : ∀ k (v6 : Int32) S, f_X11_come1_131_n G v0 v5 Q k v6 S → J p l e rm_X11_come1 s m args below meth c b D cy 7 (zI b D cy below args s G Q) 0 0 G S 131 [(0, .ref (b + v0)), (5, .int v5), (6, .int v6)] [] := by
  intro k
  induction k with
  | zero => intro v6 S h; exact h.elim
  | succ k ih =>
    intro v6 S h
    unfold f_X11_come1_131_n at h
    refine jB C [(.iload 6, 2, 0), (.iconst 5, 1, 5)] 134 [(0, .ref (b + v0)), (5, .int v5), (6, .int v6)] [.int 5, .int v6] (by decide +kernel) rfl rfl ?_
    refine jIcmp_ge C 137 159 (by decide +kernel : decode cX11_come1 134 = .ok (.if_icmp .ge 25, 3)) rfl rfl (fun c1 => ?_) (fun c1 => ?_)
    · have h := it1 h c1
      refine jB C [(.aload_n 0, 1, 0)] 160 [(0, .ref (b + v0)), (5, .int v5), (6, .int v6)] [.ref (b + v0)] (by decide +kernel) rfl rfl ?_
      obtain ⟨a2, e_a2, h⟩ := h
      refine jGetR C 163 (by decide +kernel : decode cX11_come1 160 = .ok (.getfield 16, 3)) rfl t_v0 kX11 4 (by decide) rfl rfl (by decide) wd_1158 e_a2 rfl (fun t_a2 => ?_)
      refine jB C [(.bipush 62, 2, 62), (.iload 5, 2, 0), (.iadd, 1, 0), (.iconst 0, 1, 0)] 169 [(0, .ref (b + v0)), (5, .int v5), (6, .int v6)] [.int 0, .int (62 + v5), .ref (b + a2)] (by decide +kernel) rfl rfl ?_
      obtain ⟨y3, h⟩ := h
      refine jIast C 170 (by decide +kernel : decode cX11_come1 169 = .ok (.iastore, 1)) rfl hE t_a2 y3 ?_
      refine jTopS (fun S4 e_S4 => ?_)
      have h := h S4 e_S4
      refine jB C [(.aload_n 0, 1, 0)] 171 [(0, .ref (b + v0)), (5, .int v5), (6, .int v6)] [.ref (b + v0)] (by decide +kernel) rfl rfl ?_
      obtain ⟨a5, e_a5, h⟩ := h
      refine jGetR C 174 (by decide +kernel : decode cX11_come1 171 = .ok (.getfield 16, 3)) rfl t_v0 kX11 4 (by decide) rfl rfl (by decide) wd_1158 e_a5 rfl (fun t_a5 => ?_)
      refine jB C [(.iconst 0, 1, 0), (.dup2, 1, 0)] 176 [(0, .ref (b + v0)), (5, .int v5), (6, .int v6)] [.int 0, .ref (b + a5), .int 0, .ref (b + a5)] (by decide +kernel) rfl rfl ?_
      obtain ⟨y6, h⟩ := h
      refine jIald C 177 (by decide +kernel : decode cX11_come1 176 = .ok (.iaload, 1)) rfl t_a5 y6 ?_
      refine jB C [(.iconst 1, 1, 1), (.iadd, 1, 0)] 179 [(0, .ref (b + v0)), (5, .int v5), (6, .int v6)] [.int ((S4.1 a5 (0 : Int32).toNatClampNeg) + 1), .int 0, .ref (b + a5)] (by decide +kernel) rfl rfl ?_
      obtain ⟨y7, h⟩ := h
      refine jIast C 180 (by decide +kernel : decode cX11_come1 179 = .ok (.iastore, 1)) rfl hE t_a5 y7 ?_
      refine jTopS (fun S8 e_S8 => ?_)
      have h := h S8 e_S8
      refine jB C [(.iload 5, 2, 0)] 182 [(0, .ref (b + v0)), (5, .int v5), (6, .int v6)] [.int v5] (by decide +kernel) rfl rfl ?_
      exact jRetI C (by decide +kernel : decode cX11_come1 182 = .ok (.ireturn, 1)) (Nat.le_refl _) (Nat.le_refl _) ⟨rfl, h⟩
    · have h := it2 h c1
      refine jB C [(.aload_n 0, 1, 0)] 138 [(0, .ref (b + v0)), (5, .int v5), (6, .int v6)] [.ref (b + v0)] (by decide +kernel) rfl rfl ?_
      obtain ⟨a9, e_a9, h⟩ := h
      refine jGetR C 141 (by decide +kernel : decode cX11_come1 138 = .ok (.getfield 16, 3)) rfl t_v0 kX11 4 (by decide) rfl rfl (by decide) wd_1158 e_a9 rfl (fun t_a9 => ?_)
      refine jB C [(.bipush 32, 2, 32), (.iconst 5, 1, 5), (.iload 5, 2, 0), (.imul, 1, 0), (.iadd, 1, 0), (.iload 6, 2, 0), (.iadd, 1, 0), (.iconst 0, 1, 0)] 152 [(0, .ref (b + v0)), (5, .int v5), (6, .int v6)] [.int 0, .int ((32 + (5 * v5)) + v6), .ref (b + a9)] (by decide +kernel) rfl rfl ?_
      obtain ⟨y10, h⟩ := h
      refine jIast C 153 (by decide +kernel : decode cX11_come1 152 = .ok (.iastore, 1)) rfl hE t_a9 y10 ?_
      refine jTopS (fun S11 e_S11 => ?_)
      have h := h S11 e_S11
      refine jB C [(.iinc 6 1, 3, 1)] 156 [(6, .int (v6 + 1)), (0, .ref (b + v0)), (5, .int v5)] [] (by decide +kernel) rfl rfl ?_
      refine jGoto C 131 (by decide +kernel : decode cX11_come1 156 = .ok (.goto (-25), 3)) rfl ?_
      refine jSub [1, 2, 0] rfl ?_
      exact ih (v6 + 1) S11 h
theorem j_X11_come1_131 {p : Program} {l : Launch} {e : Env} {s : State} {m : MethodId} {args : Array Value} {below : List Frame} {meth : Method} {c : Code} {b : Nat} {D : va_G} {cy : Nat → ClassId} {G : Gm} {v0 : Nat} {v5 : Int32} {v6 : Int32} {S : St} {Q : Int32 → St → Prop} (C : CX p s m args meth c b D cy cX11_come1 RX11 7 (some .int)) (hE : s.heap.size + 0 ≤ b + G.2.2) (t_v0 : ok G 10 v0) (h : f_X11_come1_131 G v0 v5 Q v6 S) : J p l e rm_X11_come1 s m args below meth c b D cy 7 (zI b D cy below args s G Q) 0 0 G S 131 [(0, .ref (b + v0)), (5, .int v5), (6, .int v6)] [] := by
  obtain ⟨k, h⟩ := h
  exact j_X11_come1_131_n C hE t_v0 k v6 S h
set_option maxHeartbeats 4000000 in
set_option maxRecDepth 100000 in
theorem j_X11_come1 {p : Program} {l : Launch} {e : Env} {s : State} {m : MethodId} {args : Array Value} {below : List Frame} {meth : Method} {c : Code} {b : Nat} {D : va_G} {cy : Nat → ClassId} {G : Gm} {v0 : Nat} {v1 : Int32} {v2 : Int32} {v3 : Int32} {v4 : Int32} {S : St} {Q : Int32 → St → Prop} (C : CX p s m args meth c b D cy cX11_come1 RX11 7 (some .int)) (hE : s.heap.size + 0 ≤ b + G.2.2) (t_v0 : ok G 10 v0) (h : f_X11_come1 G v0 v1 v2 v3 v4 Q S) : J p l e rm_X11_come1 s m args below meth c b D cy 7 (zI b D cy below args s G Q) 0 0 G S 0 [(0, .ref (b + v0)), (1, .int v1), (2, .int v2), (3, .int v3), (4, .int v4)] [] := by
  unfold f_X11_come1 at h
  refine jB C [(.iload_n 1, 1, 0), (.i2l, 1, 0), (.lconst 0, 1, 0)] 3 [(0, .ref (b + v0)), (1, .int v1), (2, .int v2), (3, .int v3), (4, .int v4)] [.long 0, .long v1.toInt64] (by decide +kernel) rfl rfl ?_
  refine jLdc2 C 6 (by decide +kernel : decode cX11_come1 3 = .ok (.ldc2_w 203, 3)) rfl wd_1371 ?_
  refine jcS_I C 9 (rest := []) (ok_X11_in h) (by decide +kernel : decode cX11_come1 6 = .ok (.invokestatic 185, 3)) rfl wd_1352 wd_1353 wd_12 wd_1354 ⟨rfl, rfl⟩ hd_X11_in ⟨Nat.le_of_ble_eq_true rfl, Nat.le_of_ble_eq_true rfl⟩ rfl rfl (Nat.le_of_ble_eq_true rfl) ⟨Nat.zero_le _, Nat.zero_le _⟩ (fun r2 S1 h => ?_)
  refine jIf_eq C 12 49 (by decide +kernel : decode cX11_come1 9 = .ok (.ifCond .eq 40, 3)) rfl rfl (fun c3 => ?_) (fun c3 => ?_)
  · have h := it1 h c3
    refine jB C [(.iconst (-1), 1, (-1))] 50 [(0, .ref (b + v0)), (1, .int v1), (2, .int v2), (3, .int v3), (4, .int v4)] [.int (-1)] (by decide +kernel) rfl rfl ?_
    exact jRetI C (by decide +kernel : decode cX11_come1 50 = .ok (.ireturn, 1)) (Nat.le_refl _) (Nat.le_refl _) ⟨rfl, h⟩
  · have h := it2 h c3
    refine jB C [(.iload_n 2, 1, 0), (.i2l, 1, 0), (.lconst 0, 1, 0)] 15 [(0, .ref (b + v0)), (1, .int v1), (2, .int v2), (3, .int v3), (4, .int v4)] [.long 0, .long v2.toInt64] (by decide +kernel) rfl rfl ?_
    refine jLdc2 C 18 (by decide +kernel : decode cX11_come1 15 = .ok (.ldc2_w 203, 3)) rfl wd_1371 ?_
    refine jcS_I C 21 (rest := []) (ok_X11_in h) (by decide +kernel : decode cX11_come1 18 = .ok (.invokestatic 185, 3)) rfl wd_1352 wd_1353 wd_12 wd_1354 ⟨rfl, rfl⟩ hd_X11_in ⟨Nat.le_of_ble_eq_true rfl, Nat.le_of_ble_eq_true rfl⟩ rfl rfl (Nat.le_of_ble_eq_true rfl) ⟨Nat.zero_le _, Nat.zero_le _⟩ (fun r5 S4 h => ?_)
    refine jIf_eq C 24 49 (by decide +kernel : decode cX11_come1 21 = .ok (.ifCond .eq 28, 3)) rfl rfl (fun c6 => ?_) (fun c6 => ?_)
    · have h := it1 h c6
      refine jB C [(.iconst (-1), 1, (-1))] 50 [(0, .ref (b + v0)), (1, .int v1), (2, .int v2), (3, .int v3), (4, .int v4)] [.int (-1)] (by decide +kernel) rfl rfl ?_
      exact jRetI C (by decide +kernel : decode cX11_come1 50 = .ok (.ireturn, 1)) (Nat.le_refl _) (Nat.le_refl _) ⟨rfl, h⟩
    · have h := it2 h c6
      refine jB C [(.iload_n 3, 1, 0), (.i2l, 1, 0), (.lconst 0, 1, 0)] 27 [(0, .ref (b + v0)), (1, .int v1), (2, .int v2), (3, .int v3), (4, .int v4)] [.long 0, .long v3.toInt64] (by decide +kernel) rfl rfl ?_
      refine jLdc2 C 30 (by decide +kernel : decode cX11_come1 27 = .ok (.ldc2_w 203, 3)) rfl wd_1371 ?_
      refine jcS_I C 33 (rest := []) (ok_X11_in h) (by decide +kernel : decode cX11_come1 30 = .ok (.invokestatic 185, 3)) rfl wd_1352 wd_1353 wd_12 wd_1354 ⟨rfl, rfl⟩ hd_X11_in ⟨Nat.le_of_ble_eq_true rfl, Nat.le_of_ble_eq_true rfl⟩ rfl rfl (Nat.le_of_ble_eq_true rfl) ⟨Nat.zero_le _, Nat.zero_le _⟩ (fun r8 S7 h => ?_)
      refine jIf_eq C 36 49 (by decide +kernel : decode cX11_come1 33 = .ok (.ifCond .eq 16, 3)) rfl rfl (fun c9 => ?_) (fun c9 => ?_)
      · have h := it1 h c9
        refine jB C [(.iconst (-1), 1, (-1))] 50 [(0, .ref (b + v0)), (1, .int v1), (2, .int v2), (3, .int v3), (4, .int v4)] [.int (-1)] (by decide +kernel) rfl rfl ?_
        exact jRetI C (by decide +kernel : decode cX11_come1 50 = .ok (.ireturn, 1)) (Nat.le_refl _) (Nat.le_refl _) ⟨rfl, h⟩
      · have h := it2 h c9
        refine jB C [(.iload 4, 2, 0), (.i2l, 1, 0), (.lconst 0, 1, 0)] 40 [(0, .ref (b + v0)), (1, .int v1), (2, .int v2), (3, .int v3), (4, .int v4)] [.long 0, .long v4.toInt64] (by decide +kernel) rfl rfl ?_
        refine jLdc2 C 43 (by decide +kernel : decode cX11_come1 40 = .ok (.ldc2_w 203, 3)) rfl wd_1371 ?_
        refine jcS_I C 46 (rest := []) (ok_X11_in h) (by decide +kernel : decode cX11_come1 43 = .ok (.invokestatic 185, 3)) rfl wd_1352 wd_1353 wd_12 wd_1354 ⟨rfl, rfl⟩ hd_X11_in ⟨Nat.le_of_ble_eq_true rfl, Nat.le_of_ble_eq_true rfl⟩ rfl rfl (Nat.le_of_ble_eq_true rfl) ⟨Nat.zero_le _, Nat.zero_le _⟩ (fun r11 S10 h => ?_)
        refine jIf_ne C 49 51 (by decide +kernel : decode cX11_come1 46 = .ok (.ifCond .ne 5, 3)) rfl rfl (fun c12 => ?_) (fun c12 => ?_)
        · have h := it2 h c12
          refine jB C [(.aload_n 0, 1, 0)] 52 [(0, .ref (b + v0)), (1, .int v1), (2, .int v2), (3, .int v3), (4, .int v4)] [.ref (b + v0)] (by decide +kernel) rfl rfl ?_
          obtain ⟨a13, e_a13, h⟩ := h
          refine jGetR C 55 (by decide +kernel : decode cX11_come1 52 = .ok (.getfield 16, 3)) rfl t_v0 kX11 4 (by decide) rfl rfl (by decide) wd_1158 e_a13 rfl (fun t_a13 => ?_)
          refine jB C [(.iconst 0, 1, 0)] 56 [(0, .ref (b + v0)), (1, .int v1), (2, .int v2), (3, .int v3), (4, .int v4)] [.int 0, .ref (b + a13)] (by decide +kernel) rfl rfl ?_
          obtain ⟨y14, h⟩ := h
          refine jIald C 57 (by decide +kernel : decode cX11_come1 56 = .ok (.iaload, 1)) rfl t_a13 y14 ?_
          refine jTopI (fun x15 e_x15 => ?_)
          have h := h x15 e_x15
          refine jB C [(.istore 5, 2, 0), (.iload 5, 2, 0), (.bipush 6, 2, 6)] 63 [(5, .int x15), (0, .ref (b + v0)), (1, .int v1), (2, .int v2), (3, .int v3), (4, .int v4)] [.int 6, .int x15] (by decide +kernel) rfl rfl ?_
          refine jIcmp_ne C 66 69 (by decide +kernel : decode cX11_come1 63 = .ok (.if_icmp .ne 6, 3)) rfl rfl (fun c16 => ?_) (fun c16 => ?_)
          · have h := it2 h c16
            refine jB C [(.aload_n 0, 1, 0)] 70 [(5, .int x15), (0, .ref (b + v0)), (1, .int v1), (2, .int v2), (3, .int v3), (4, .int v4)] [.ref (b + v0)] (by decide +kernel) rfl rfl ?_
            obtain ⟨a17, e_a17, h⟩ := h
            refine jGetR C 73 (by decide +kernel : decode cX11_come1 70 = .ok (.getfield 16, 3)) rfl t_v0 kX11 4 (by decide) rfl rfl (by decide) wd_1158 e_a17 rfl (fun t_a17 => ?_)
            refine jB C [(.bipush 8, 2, 8), (.iconst 4, 1, 4), (.iload 5, 2, 0), (.imul, 1, 0), (.iadd, 1, 0), (.iload_n 1, 1, 0)] 81 [(5, .int x15), (0, .ref (b + v0)), (1, .int v1), (2, .int v2), (3, .int v3), (4, .int v4)] [.int v1, .int (8 + (4 * x15)), .ref (b + a17)] (by decide +kernel) rfl rfl ?_
            obtain ⟨y18, h⟩ := h
            refine jIast C 82 (by decide +kernel : decode cX11_come1 81 = .ok (.iastore, 1)) rfl hE t_a17 y18 ?_
            refine jTopS (fun S19 e_S19 => ?_)
            have h := h S19 e_S19
            refine jB C [(.aload_n 0, 1, 0)] 83 [(5, .int x15), (0, .ref (b + v0)), (1, .int v1), (2, .int v2), (3, .int v3), (4, .int v4)] [.ref (b + v0)] (by decide +kernel) rfl rfl ?_
            obtain ⟨a20, e_a20, h⟩ := h
            refine jGetR C 86 (by decide +kernel : decode cX11_come1 83 = .ok (.getfield 16, 3)) rfl t_v0 kX11 4 (by decide) rfl rfl (by decide) wd_1158 e_a20 rfl (fun t_a20 => ?_)
            refine jB C [(.bipush 8, 2, 8), (.iconst 4, 1, 4), (.iload 5, 2, 0), (.imul, 1, 0), (.iadd, 1, 0), (.iconst 1, 1, 1), (.iadd, 1, 0), (.iload_n 2, 1, 0)] 96 [(5, .int x15), (0, .ref (b + v0)), (1, .int v1), (2, .int v2), (3, .int v3), (4, .int v4)] [.int v2, .int ((8 + (4 * x15)) + 1), .ref (b + a20)] (by decide +kernel) rfl rfl ?_
            obtain ⟨y21, h⟩ := h
            refine jIast C 97 (by decide +kernel : decode cX11_come1 96 = .ok (.iastore, 1)) rfl hE t_a20 y21 ?_
            refine jTopS (fun S22 e_S22 => ?_)
            have h := h S22 e_S22
            refine jB C [(.aload_n 0, 1, 0)] 98 [(5, .int x15), (0, .ref (b + v0)), (1, .int v1), (2, .int v2), (3, .int v3), (4, .int v4)] [.ref (b + v0)] (by decide +kernel) rfl rfl ?_
            obtain ⟨a23, e_a23, h⟩ := h
            refine jGetR C 101 (by decide +kernel : decode cX11_come1 98 = .ok (.getfield 16, 3)) rfl t_v0 kX11 4 (by decide) rfl rfl (by decide) wd_1158 e_a23 rfl (fun t_a23 => ?_)
            refine jB C [(.bipush 8, 2, 8), (.iconst 4, 1, 4), (.iload 5, 2, 0), (.imul, 1, 0), (.iadd, 1, 0), (.iconst 2, 1, 2), (.iadd, 1, 0), (.iload_n 3, 1, 0)] 111 [(5, .int x15), (0, .ref (b + v0)), (1, .int v1), (2, .int v2), (3, .int v3), (4, .int v4)] [.int v3, .int ((8 + (4 * x15)) + 2), .ref (b + a23)] (by decide +kernel) rfl rfl ?_
            obtain ⟨y24, h⟩ := h
            refine jIast C 112 (by decide +kernel : decode cX11_come1 111 = .ok (.iastore, 1)) rfl hE t_a23 y24 ?_
            refine jTopS (fun S25 e_S25 => ?_)
            have h := h S25 e_S25
            refine jB C [(.aload_n 0, 1, 0)] 113 [(5, .int x15), (0, .ref (b + v0)), (1, .int v1), (2, .int v2), (3, .int v3), (4, .int v4)] [.ref (b + v0)] (by decide +kernel) rfl rfl ?_
            obtain ⟨a26, e_a26, h⟩ := h
            refine jGetR C 116 (by decide +kernel : decode cX11_come1 113 = .ok (.getfield 16, 3)) rfl t_v0 kX11 4 (by decide) rfl rfl (by decide) wd_1158 e_a26 rfl (fun t_a26 => ?_)
            refine jB C [(.bipush 8, 2, 8), (.iconst 4, 1, 4), (.iload 5, 2, 0), (.imul, 1, 0), (.iadd, 1, 0), (.iconst 3, 1, 3), (.iadd, 1, 0), (.iload 4, 2, 0)] 127 [(5, .int x15), (0, .ref (b + v0)), (1, .int v1), (2, .int v2), (3, .int v3), (4, .int v4)] [.int v4, .int ((8 + (4 * x15)) + 3), .ref (b + a26)] (by decide +kernel) rfl rfl ?_
            obtain ⟨y27, h⟩ := h
            refine jIast C 128 (by decide +kernel : decode cX11_come1 127 = .ok (.iastore, 1)) rfl hE t_a26 y27 ?_
            refine jTopS (fun S28 e_S28 => ?_)
            have h := h S28 e_S28
            refine jB C [(.iconst 0, 1, 0), (.istore 6, 2, 0)] 131 [(6, .int 0), (5, .int x15), (0, .ref (b + v0)), (1, .int v1), (2, .int v2), (3, .int v3), (4, .int v4)] [] (by decide +kernel) rfl rfl ?_
            refine jSub [2, 1, 0] rfl ?_
            exact j_X11_come1_131 C hE t_v0 h
          · have h := it1 h c16
            refine jB C [(.bipush (-5), 2, (-5))] 68 [(5, .int x15), (0, .ref (b + v0)), (1, .int v1), (2, .int v2), (3, .int v3), (4, .int v4)] [.int (-5)] (by decide +kernel) rfl rfl ?_
            exact jRetI C (by decide +kernel : decode cX11_come1 68 = .ok (.ireturn, 1)) (Nat.le_refl _) (Nat.le_refl _) ⟨rfl, h⟩
        · have h := it1 h c12
          refine jB C [(.iconst (-1), 1, (-1))] 50 [(0, .ref (b + v0)), (1, .int v1), (2, .int v2), (3, .int v3), (4, .int v4)] [.int (-1)] (by decide +kernel) rfl rfl ?_
          exact jRetI C (by decide +kernel : decode cX11_come1 50 = .ok (.ireturn, 1)) (Nat.le_refl _) (Nat.le_refl _) ⟨rfl, h⟩
theorem ok_X11_come1 {G : Gm} {v0 : Nat} {v1 : Int32} {v2 : Int32} {v3 : Int32} {v4 : Int32} {S : St} {Q : Int32 → St → Prop}  (t_v0 : ok G 10 v0) (h : f_X11_come1 G v0 v1 v2 v3 v4 Q S) : MT yX11_come1 cX11_come1 7 (some .int) rm_X11_come1 0 0 (fun b => [.ref (b + v0), .int v1, .int v2, .int v3, .int v4]) G S (QI (fun r G1 S1 => G1 = G ∧ Q r S1)) := MT.ofJ (by decide +kernel) (fun b => [(0, .ref (b + v0)), (1, .int v1), (2, .int v2), (3, .int v3), (4, .int v4)]) (fun b => rfl) (fun b => Nat.le_of_ble_eq_true rfl) (fun l b D cy p e s m below meth c C hE hn => j_X11_come1 C hE t_v0 h)
theorem hd_X11_come1 : yX11_come1.cls ≠ "java/lang/invoke/MethodHandle" ∧ yX11_come1.cls ≠ "java/lang/invoke/VarHandle" ∧ (parseMethodDescriptor yX11_come1.desc).map (fun d => d.parameters.length) = some 4 := by decide +kernel
abbrev rm_X11_count : Room := { frames := 2, cells := 0, slots := 0, locals := 45 }
set_option maxHeartbeats 4000000 in
set_option maxRecDepth 100000 in
theorem j_X11_count {p : Program} {l : Launch} {e : Env} {s : State} {m : MethodId} {args : Array Value} {below : List Frame} {meth : Method} {c : Code} {b : Nat} {D : va_G} {cy : Nat → ClassId} {G : Gm} {v0 : Nat} {v1 : Int32} {S : St} {Q : Int32 → St → Prop} (C : CX p s m args meth c b D cy cX11_count RX11 2 (some .int)) (hE : s.heap.size + 0 ≤ b + G.2.2) (t_v0 : ok G 10 v0) (h : f_X11_count G v0 v1 Q S) : J p l e rm_X11_count s m args below meth c b D cy 2 (zI b D cy below args s G Q) 0 0 G S 0 [(0, .ref (b + v0)), (1, .int v1)] [] := by
  unfold f_X11_count at h
  refine jB C [(.aload_n 0, 1, 0), (.iconst 0, 1, 0)] 2 [(0, .ref (b + v0)), (1, .int v1)] [.int 0, .ref (b + v0)] (by decide +kernel) rfl rfl ?_
  refine jPutI C 5 (by decide +kernel : decode cX11_count 2 = .ok (.putfield 165, 3)) rfl hE t_v0 kX11 0 (by decide) rfl rfl (by decide) rfl wd_1154 rfl rfl rfl ?_
  refine jTopS (fun S1 e_S1 => ?_)
  have h := h S1 e_S1
  refine jB C [(.iload_n 1, 1, 0)] 6 [(0, .ref (b + v0)), (1, .int v1)] [.int v1] (by decide +kernel) rfl rfl ?_
  by_cases c27_0 : v1 = 0
  · have h := it1 h c27_0
    refine jTabIn C 68 0 (by decide +kernel : decode cX11_count 6 = .ok (.tableswitch 141 0 11 #[62, 69, 74, 81, 88, 93, 98, 105, 112, 119, 126, 134], 62)) c27_0 ⟨rfl, rfl, rfl, rfl⟩ ?_
    refine jB C [(.aload_n 0, 1, 0)] 69 [(0, .ref (b + v0)), (1, .int v1)] [.ref (b + v0)] (by decide +kernel) rfl rfl ?_
    obtain ⟨a2, e_a2, h⟩ := h
    refine jGetR C 72 (by decide +kernel : decode cX11_count 69 = .ok (.getfield 16, 3)) rfl t_v0 kX11 4 (by decide) rfl rfl (by decide) wd_1158 e_a2 rfl (fun t_a2 => ?_)
    refine jB C [(.iconst 0, 1, 0)] 73 [(0, .ref (b + v0)), (1, .int v1)] [.int 0, .ref (b + a2)] (by decide +kernel) rfl rfl ?_
    obtain ⟨y3, h⟩ := h
    refine jIald C 74 (by decide +kernel : decode cX11_count 73 = .ok (.iaload, 1)) rfl t_a2 y3 ?_
    exact jRetI C (by decide +kernel : decode cX11_count 74 = .ok (.ireturn, 1)) (Nat.le_refl _) (Nat.le_refl _) ⟨rfl, h⟩
  · have h := it2 h c27_0
    by_cases c27_1 : v1 = 1
    · have h := it1 h c27_1
      refine jTabIn C 75 1 (by decide +kernel : decode cX11_count 6 = .ok (.tableswitch 141 0 11 #[62, 69, 74, 81, 88, 93, 98, 105, 112, 119, 126, 134], 62)) c27_1 ⟨rfl, rfl, rfl, rfl⟩ ?_
      refine jB C [(.aload_n 0, 1, 0)] 76 [(0, .ref (b + v0)), (1, .int v1)] [.ref (b + v0)] (by decide +kernel) rfl rfl ?_
      refine jcV_I C 79 (rest := []) (ok_X11_allSins t_v0 h) (by decide +kernel : decode cX11_count 76 = .ok (.invokevirtual 571, 3)) rfl wd_1845 wd_1847 wp_169 wd_12 wd_1848 ⟨rfl, rfl⟩ hd_X11_allSins ⟨Nat.le_of_ble_eq_true rfl, Nat.le_of_ble_eq_true rfl⟩ t_v0 kX11 (by decide) rfl rfl rfl (Nat.le_of_ble_eq_true rfl) ⟨Nat.zero_le _, Nat.zero_le _⟩ (fun r5 S4 h => ?_)
      exact jRetI C (by decide +kernel : decode cX11_count 79 = .ok (.ireturn, 1)) (Nat.le_refl _) (Nat.le_refl _) ⟨rfl, h⟩
    · have h := it2 h c27_1
      by_cases c27_2 : v1 = 2
      · have h := it1 h c27_2
        refine jTabIn C 80 2 (by decide +kernel : decode cX11_count 6 = .ok (.tableswitch 141 0 11 #[62, 69, 74, 81, 88, 93, 98, 105, 112, 119, 126, 134], 62)) c27_2 ⟨rfl, rfl, rfl, rfl⟩ ?_
        refine jB C [(.aload_n 0, 1, 0)] 81 [(0, .ref (b + v0)), (1, .int v1)] [.ref (b + v0)] (by decide +kernel) rfl rfl ?_
        obtain ⟨a6, e_a6, h⟩ := h
        refine jGetR C 84 (by decide +kernel : decode cX11_count 81 = .ok (.getfield 16, 3)) rfl t_v0 kX11 4 (by decide) rfl rfl (by decide) wd_1158 e_a6 rfl (fun t_a6 => ?_)
        refine jB C [(.iconst 1, 1, 1)] 85 [(0, .ref (b + v0)), (1, .int v1)] [.int 1, .ref (b + a6)] (by decide +kernel) rfl rfl ?_
        obtain ⟨y7, h⟩ := h
        refine jIald C 86 (by decide +kernel : decode cX11_count 85 = .ok (.iaload, 1)) rfl t_a6 y7 ?_
        exact jRetI C (by decide +kernel : decode cX11_count 86 = .ok (.ireturn, 1)) (Nat.le_refl _) (Nat.le_refl _) ⟨rfl, h⟩
      · have h := it2 h c27_2
        by_cases c27_3 : v1 = 3
        · have h := it1 h c27_3
          refine jTabIn C 87 3 (by decide +kernel : decode cX11_count 6 = .ok (.tableswitch 141 0 11 #[62, 69, 74, 81, 88, 93, 98, 105, 112, 119, 126, 134], 62)) c27_3 ⟨rfl, rfl, rfl, rfl⟩ ?_
          refine jB C [(.aload_n 0, 1, 0)] 88 [(0, .ref (b + v0)), (1, .int v1)] [.ref (b + v0)] (by decide +kernel) rfl rfl ?_
          obtain ⟨a8, e_a8, h⟩ := h
          refine jGetR C 91 (by decide +kernel : decode cX11_count 88 = .ok (.getfield 16, 3)) rfl t_v0 kX11 4 (by decide) rfl rfl (by decide) wd_1158 e_a8 rfl (fun t_a8 => ?_)
          refine jB C [(.iconst 2, 1, 2)] 92 [(0, .ref (b + v0)), (1, .int v1)] [.int 2, .ref (b + a8)] (by decide +kernel) rfl rfl ?_
          obtain ⟨y9, h⟩ := h
          refine jIald C 93 (by decide +kernel : decode cX11_count 92 = .ok (.iaload, 1)) rfl t_a8 y9 ?_
          exact jRetI C (by decide +kernel : decode cX11_count 93 = .ok (.ireturn, 1)) (Nat.le_refl _) (Nat.le_refl _) ⟨rfl, h⟩
        · have h := it2 h c27_3
          by_cases c27_4 : v1 = 4
          · have h := it1 h c27_4
            refine jTabIn C 94 4 (by decide +kernel : decode cX11_count 6 = .ok (.tableswitch 141 0 11 #[62, 69, 74, 81, 88, 93, 98, 105, 112, 119, 126, 134], 62)) c27_4 ⟨rfl, rfl, rfl, rfl⟩ ?_
            refine jB C [(.aload_n 0, 1, 0)] 95 [(0, .ref (b + v0)), (1, .int v1)] [.ref (b + v0)] (by decide +kernel) rfl rfl ?_
            refine jGetI C 98 (by decide +kernel : decode cX11_count 95 = .ok (.getfield 171, 3)) rfl t_v0 kX11 9 (by decide) rfl rfl (by decide) wd_1163 ?_
            exact jRetI C (by decide +kernel : decode cX11_count 98 = .ok (.ireturn, 1)) (Nat.le_refl _) (Nat.le_refl _) ⟨rfl, h⟩
          · have h := it2 h c27_4
            by_cases c27_5 : v1 = 5
            · have h := it1 h c27_5
              refine jTabIn C 99 5 (by decide +kernel : decode cX11_count 6 = .ok (.tableswitch 141 0 11 #[62, 69, 74, 81, 88, 93, 98, 105, 112, 119, 126, 134], 62)) c27_5 ⟨rfl, rfl, rfl, rfl⟩ ?_
              refine jB C [(.aload_n 0, 1, 0)] 100 [(0, .ref (b + v0)), (1, .int v1)] [.ref (b + v0)] (by decide +kernel) rfl rfl ?_
              refine jGetI C 103 (by decide +kernel : decode cX11_count 100 = .ok (.getfield 259, 3)) rfl t_v0 kX11 14 (by decide) rfl rfl (by decide) wd_1168 ?_
              exact jRetI C (by decide +kernel : decode cX11_count 103 = .ok (.ireturn, 1)) (Nat.le_refl _) (Nat.le_refl _) ⟨rfl, h⟩
            · have h := it2 h c27_5
              by_cases c27_6 : v1 = 6
              · have h := it1 h c27_6
                refine jTabIn C 104 6 (by decide +kernel : decode cX11_count 6 = .ok (.tableswitch 141 0 11 #[62, 69, 74, 81, 88, 93, 98, 105, 112, 119, 126, 134], 62)) c27_6 ⟨rfl, rfl, rfl, rfl⟩ ?_
                refine jB C [(.aload_n 0, 1, 0)] 105 [(0, .ref (b + v0)), (1, .int v1)] [.ref (b + v0)] (by decide +kernel) rfl rfl ?_
                obtain ⟨a10, e_a10, h⟩ := h
                refine jGetR C 108 (by decide +kernel : decode cX11_count 105 = .ok (.getfield 7, 3)) rfl t_v0 kX11 2 (by decide) rfl rfl (by decide) wd_1156 e_a10 rfl (fun t_a10 => ?_)
                refine jB C [(.iconst 1, 1, 1)] 109 [(0, .ref (b + v0)), (1, .int v1)] [.int 1, .ref (b + a10)] (by decide +kernel) rfl rfl ?_
                obtain ⟨y11, h⟩ := h
                refine jIald C 110 (by decide +kernel : decode cX11_count 109 = .ok (.iaload, 1)) rfl t_a10 y11 ?_
                exact jRetI C (by decide +kernel : decode cX11_count 110 = .ok (.ireturn, 1)) (Nat.le_refl _) (Nat.le_refl _) ⟨rfl, h⟩
              · have h := it2 h c27_6
                by_cases c27_7 : v1 = 7
                · have h := it1 h c27_7
                  refine jTabIn C 111 7 (by decide +kernel : decode cX11_count 6 = .ok (.tableswitch 141 0 11 #[62, 69, 74, 81, 88, 93, 98, 105, 112, 119, 126, 134], 62)) c27_7 ⟨rfl, rfl, rfl, rfl⟩ ?_
                  refine jB C [(.aload_n 0, 1, 0)] 112 [(0, .ref (b + v0)), (1, .int v1)] [.ref (b + v0)] (by decide +kernel) rfl rfl ?_
                  obtain ⟨a12, e_a12, h⟩ := h
                  refine jGetR C 115 (by decide +kernel : decode cX11_count 112 = .ok (.getfield 7, 3)) rfl t_v0 kX11 2 (by decide) rfl rfl (by decide) wd_1156 e_a12 rfl (fun t_a12 => ?_)
                  refine jB C [(.iconst 2, 1, 2)] 116 [(0, .ref (b + v0)), (1, .int v1)] [.int 2, .ref (b + a12)] (by decide +kernel) rfl rfl ?_
                  obtain ⟨y13, h⟩ := h
                  refine jIald C 117 (by decide +kernel : decode cX11_count 116 = .ok (.iaload, 1)) rfl t_a12 y13 ?_
                  exact jRetI C (by decide +kernel : decode cX11_count 117 = .ok (.ireturn, 1)) (Nat.le_refl _) (Nat.le_refl _) ⟨rfl, h⟩
                · have h := it2 h c27_7
                  by_cases c27_8 : v1 = 8
                  · have h := it1 h c27_8
                    refine jTabIn C 118 8 (by decide +kernel : decode cX11_count 6 = .ok (.tableswitch 141 0 11 #[62, 69, 74, 81, 88, 93, 98, 105, 112, 119, 126, 134], 62)) c27_8 ⟨rfl, rfl, rfl, rfl⟩ ?_
                    refine jB C [(.aload_n 0, 1, 0)] 119 [(0, .ref (b + v0)), (1, .int v1)] [.ref (b + v0)] (by decide +kernel) rfl rfl ?_
                    obtain ⟨a14, e_a14, h⟩ := h
                    refine jGetR C 122 (by decide +kernel : decode cX11_count 119 = .ok (.getfield 7, 3)) rfl t_v0 kX11 2 (by decide) rfl rfl (by decide) wd_1156 e_a14 rfl (fun t_a14 => ?_)
                    refine jB C [(.iconst 3, 1, 3)] 123 [(0, .ref (b + v0)), (1, .int v1)] [.int 3, .ref (b + a14)] (by decide +kernel) rfl rfl ?_
                    obtain ⟨y15, h⟩ := h
                    refine jIald C 124 (by decide +kernel : decode cX11_count 123 = .ok (.iaload, 1)) rfl t_a14 y15 ?_
                    exact jRetI C (by decide +kernel : decode cX11_count 124 = .ok (.ireturn, 1)) (Nat.le_refl _) (Nat.le_refl _) ⟨rfl, h⟩
                  · have h := it2 h c27_8
                    by_cases c27_9 : v1 = 9
                    · have h := it1 h c27_9
                      refine jTabIn C 125 9 (by decide +kernel : decode cX11_count 6 = .ok (.tableswitch 141 0 11 #[62, 69, 74, 81, 88, 93, 98, 105, 112, 119, 126, 134], 62)) c27_9 ⟨rfl, rfl, rfl, rfl⟩ ?_
                      refine jB C [(.aload_n 0, 1, 0)] 126 [(0, .ref (b + v0)), (1, .int v1)] [.ref (b + v0)] (by decide +kernel) rfl rfl ?_
                      obtain ⟨a16, e_a16, h⟩ := h
                      refine jGetR C 129 (by decide +kernel : decode cX11_count 126 = .ok (.getfield 7, 3)) rfl t_v0 kX11 2 (by decide) rfl rfl (by decide) wd_1156 e_a16 rfl (fun t_a16 => ?_)
                      refine jB C [(.iconst 5, 1, 5)] 130 [(0, .ref (b + v0)), (1, .int v1)] [.int 5, .ref (b + a16)] (by decide +kernel) rfl rfl ?_
                      obtain ⟨y17, h⟩ := h
                      refine jIald C 131 (by decide +kernel : decode cX11_count 130 = .ok (.iaload, 1)) rfl t_a16 y17 ?_
                      exact jRetI C (by decide +kernel : decode cX11_count 131 = .ok (.ireturn, 1)) (Nat.le_refl _) (Nat.le_refl _) ⟨rfl, h⟩
                    · have h := it2 h c27_9
                      by_cases c27_10 : v1 = 10
                      · have h := it1 h c27_10
                        refine jTabIn C 132 10 (by decide +kernel : decode cX11_count 6 = .ok (.tableswitch 141 0 11 #[62, 69, 74, 81, 88, 93, 98, 105, 112, 119, 126, 134], 62)) c27_10 ⟨rfl, rfl, rfl, rfl⟩ ?_
                        refine jB C [(.aload_n 0, 1, 0)] 133 [(0, .ref (b + v0)), (1, .int v1)] [.ref (b + v0)] (by decide +kernel) rfl rfl ?_
                        obtain ⟨a18, e_a18, h⟩ := h
                        refine jGetR C 136 (by decide +kernel : decode cX11_count 133 = .ok (.getfield 7, 3)) rfl t_v0 kX11 2 (by decide) rfl rfl (by decide) wd_1156 e_a18 rfl (fun t_a18 => ?_)
                        refine jB C [(.bipush 6, 2, 6)] 138 [(0, .ref (b + v0)), (1, .int v1)] [.int 6, .ref (b + a18)] (by decide +kernel) rfl rfl ?_
                        obtain ⟨y19, h⟩ := h
                        refine jIald C 139 (by decide +kernel : decode cX11_count 138 = .ok (.iaload, 1)) rfl t_a18 y19 ?_
                        exact jRetI C (by decide +kernel : decode cX11_count 139 = .ok (.ireturn, 1)) (Nat.le_refl _) (Nat.le_refl _) ⟨rfl, h⟩
                      · have h := it2 h c27_10
                        by_cases c27_11 : v1 = 11
                        · have h := it1 h c27_11
                          refine jTabIn C 140 11 (by decide +kernel : decode cX11_count 6 = .ok (.tableswitch 141 0 11 #[62, 69, 74, 81, 88, 93, 98, 105, 112, 119, 126, 134], 62)) c27_11 ⟨rfl, rfl, rfl, rfl⟩ ?_
                          refine jB C [(.aload_n 0, 1, 0)] 141 [(0, .ref (b + v0)), (1, .int v1)] [.ref (b + v0)] (by decide +kernel) rfl rfl ?_
                          obtain ⟨a20, e_a20, h⟩ := h
                          refine jGetR C 144 (by decide +kernel : decode cX11_count 141 = .ok (.getfield 16, 3)) rfl t_v0 kX11 4 (by decide) rfl rfl (by decide) wd_1158 e_a20 rfl (fun t_a20 => ?_)
                          refine jB C [(.iconst 3, 1, 3)] 145 [(0, .ref (b + v0)), (1, .int v1)] [.int 3, .ref (b + a20)] (by decide +kernel) rfl rfl ?_
                          obtain ⟨y21, h⟩ := h
                          refine jIald C 146 (by decide +kernel : decode cX11_count 145 = .ok (.iaload, 1)) rfl t_a20 y21 ?_
                          exact jRetI C (by decide +kernel : decode cX11_count 146 = .ok (.ireturn, 1)) (Nat.le_refl _) (Nat.le_refl _) ⟨rfl, h⟩
                        · have h := it2 h c27_11
                          refine jTabOut C 147 (by decide +kernel : decode cX11_count 6 = .ok (.tableswitch 141 0 11 #[62, 69, 74, 81, 88, 93, 98, 105, 112, 119, 126, 134], 62)) rfl (by have := lv_neT c27_0 (a := 0) rfl; have := lv_neT c27_1 (a := 1) rfl; have := lv_neT c27_2 (a := 2) rfl; have := lv_neT c27_3 (a := 3) rfl; have := lv_neT c27_4 (a := 4) rfl; have := lv_neT c27_5 (a := 5) rfl; have := lv_neT c27_6 (a := 6) rfl; have := lv_neT c27_7 (a := 7) rfl; have := lv_neT c27_8 (a := 8) rfl; have := lv_neT c27_9 (a := 9) rfl; have := lv_neT c27_10 (a := 10) rfl; have := lv_neT c27_11 (a := 11) rfl; omega) ?_
                          refine jB C [(.iload_n 1, 1, 0), (.i2l, 1, 0)] 149 [(0, .ref (b + v0)), (1, .int v1)] [.long v1.toInt64] (by decide +kernel) rfl rfl ?_
                          refine jLdc2 C 152 (by decide +kernel : decode cX11_count 149 = .ok (.ldc2_w 574, 3)) rfl wd_1849 ?_
                          refine jLdc2 C 155 (by decide +kernel : decode cX11_count 152 = .ok (.ldc2_w 576, 3)) rfl wd_1850 ?_
                          refine jcS_I C 158 (rest := []) (ok_X11_in h) (by decide +kernel : decode cX11_count 155 = .ok (.invokestatic 185, 3)) rfl wd_1352 wd_1353 wd_12 wd_1354 ⟨rfl, rfl⟩ hd_X11_in ⟨Nat.le_of_ble_eq_true rfl, Nat.le_of_ble_eq_true rfl⟩ rfl rfl (Nat.le_of_ble_eq_true rfl) ⟨Nat.zero_le _, Nat.zero_le _⟩ (fun r23 S22 h => ?_)
                          refine jIf_eq C 161 175 (by decide +kernel : decode cX11_count 158 = .ok (.ifCond .eq 17, 3)) rfl rfl (fun c24 => ?_) (fun c24 => ?_)
                          · have h := it1 h c24
                            refine jB C [(.iconst (-1), 1, (-1))] 176 [(0, .ref (b + v0)), (1, .int v1)] [.int (-1)] (by decide +kernel) rfl rfl ?_
                            exact jRetI C (by decide +kernel : decode cX11_count 176 = .ok (.ireturn, 1)) (Nat.le_refl _) (Nat.le_refl _) ⟨rfl, h⟩
                          · have h := it2 h c24
                            refine jB C [(.aload_n 0, 1, 0)] 162 [(0, .ref (b + v0)), (1, .int v1)] [.ref (b + v0)] (by decide +kernel) rfl rfl ?_
                            obtain ⟨a25, e_a25, h⟩ := h
                            refine jGetR C 165 (by decide +kernel : decode cX11_count 162 = .ok (.getfield 16, 3)) rfl t_v0 kX11 4 (by decide) rfl rfl (by decide) wd_1158 e_a25 rfl (fun t_a25 => ?_)
                            refine jB C [(.iconst 4, 1, 4), (.iload_n 1, 1, 0), (.iadd, 1, 0), (.bipush 12, 2, 12), (.isub, 1, 0)] 171 [(0, .ref (b + v0)), (1, .int v1)] [.int ((4 + v1) - 12), .ref (b + a25)] (by decide +kernel) rfl rfl ?_
                            obtain ⟨y26, h⟩ := h
                            refine jIald C 172 (by decide +kernel : decode cX11_count 171 = .ok (.iaload, 1)) rfl t_a25 y26 ?_
                            refine jGoto C 176 (by decide +kernel : decode cX11_count 172 = .ok (.goto 4, 3)) rfl ?_
                            exact jRetI C (by decide +kernel : decode cX11_count 176 = .ok (.ireturn, 1)) (Nat.le_refl _) (Nat.le_refl _) ⟨rfl, h⟩
theorem ok_X11_count {G : Gm} {v0 : Nat} {v1 : Int32} {S : St} {Q : Int32 → St → Prop}  (t_v0 : ok G 10 v0) (h : f_X11_count G v0 v1 Q S) : MT yX11_count cX11_count 2 (some .int) rm_X11_count 0 0 (fun b => [.ref (b + v0), .int v1]) G S (QI (fun r G1 S1 => G1 = G ∧ Q r S1)) := MT.ofJ (by decide +kernel) (fun b => [(0, .ref (b + v0)), (1, .int v1)]) (fun b => rfl) (fun b => Nat.le_of_ble_eq_true rfl) (fun l b D cy p e s m below meth c C hE hn => j_X11_count C hE t_v0 h)
theorem hd_X11_count : yX11_count.cls ≠ "java/lang/invoke/MethodHandle" ∧ yX11_count.cls ≠ "java/lang/invoke/VarHandle" ∧ (parseMethodDescriptor yX11_count.desc).map (fun d => d.parameters.length) = some 1 := by decide +kernel
abbrev rm_X11_layCures : Room := { frames := 0, cells := 0, slots := 0, locals := 0 }
set_option maxHeartbeats 4000000 in
set_option maxRecDepth 100000 in
theorem j_X11_layCures_133 {p : Program} {l : Launch} {e : Env} {s : State} {m : MethodId} {args : Array Value} {below : List Frame} {meth : Method} {c : Code} {b : Nat} {D : va_G} {cy : Nat → ClassId} {G : Gm} {k41 : Int32 → St → Prop} {k49 : Int32 → Int32 → St → Prop} {k58 : Int32 → Int32 → St → Prop} {v0 : Nat} {v1 : Int32} {v2 : Int32} {v3 : Int32} {u0 : Int32} {u1 : Int32} {u2 : Nat} {S : St} {Q : St → Prop} (C : CX p s m args meth c b D cy cX11_layCures RX11 5 none) (hE : s.heap.size + 0 ≤ b + G.2.2) (t_v0 : ok G 10 v0) (t_u2 : ok G 11 u2) (hk41 : ∀ v1' S, k41 v1' S → J p l e rm_X11_layCures s m args below meth c b D cy 5 (zV b D cy below args s G Q) 0 0 G S 41 [(0, .ref (b + v0)), (1, .int (v1'))] []) (hk49 : ∀ v1' v2' S, k49 v1' v2' S → J p l e rm_X11_layCures s m args below meth c b D cy 5 (zV b D cy below args s G Q) 0 0 G S 49 [(0, .ref (b + v0)), (1, .int (v1')), (2, .int (v2'))] []) (hk58 : ∀ v1' v3' S, k58 v1' v3' S → J p l e rm_X11_layCures s m args below meth c b D cy 5 (zV b D cy below args s G Q) 0 0 G S 58 [(0, .ref (b + v0)), (1, .int (v1')), (2, .int v2), (3, .int (v3'))] []) (h : f_X11_layCures_133 G k41 k49 k58 v0 v1 v2 v3 u0 u1 u2 Q S) : J p l e rm_X11_layCures s m args below meth c b D cy 5 (zV b D cy below args s G Q) 0 0 G S 133 [(0, .ref (b + v0)), (1, .int v1), (2, .int v2), (3, .int v3)] [.int u0, .int u1, .ref (b + u2)] := by
  unfold f_X11_layCures_133 at h
  obtain ⟨y1, h⟩ := h
  refine jIast C 134 (by decide +kernel : decode cX11_layCures 133 = .ok (.iastore, 1)) rfl hE t_u2 y1 ?_
  refine jTopS (fun S2 e_S2 => ?_)
  have h := h S2 e_S2
  refine jB C [(.iinc 3 1, 3, 1)] 137 [(3, .int (v3 + 1)), (0, .ref (b + v0)), (1, .int v1), (2, .int v2)] [] (by decide +kernel) rfl rfl ?_
  refine jGoto C 58 (by decide +kernel : decode cX11_layCures 137 = .ok (.goto (-79), 3)) rfl ?_
  refine jSub [1, 2, 3, 0] rfl ?_
  exact hk58 v1 (v3 + 1) S2 h
set_option maxHeartbeats 4000000 in
set_option maxRecDepth 100000 in
theorem j_X11_layCures_105 {p : Program} {l : Launch} {e : Env} {s : State} {m : MethodId} {args : Array Value} {below : List Frame} {meth : Method} {c : Code} {b : Nat} {D : va_G} {cy : Nat → ClassId} {G : Gm} {k41 : Int32 → St → Prop} {k49 : Int32 → Int32 → St → Prop} {k58 : Int32 → Int32 → St → Prop} {v0 : Nat} {v2 : Int32} {v3 : Int32} {v4 : Int32} {u0 : Int32} {S : St} {Q : St → Prop} (C : CX p s m args meth c b D cy cX11_layCures RX11 5 none) (hE : s.heap.size + 0 ≤ b + G.2.2) (t_v0 : ok G 10 v0) (hk41 : ∀ v1' S, k41 v1' S → J p l e rm_X11_layCures s m args below meth c b D cy 5 (zV b D cy below args s G Q) 0 0 G S 41 [(0, .ref (b + v0)), (1, .int (v1'))] []) (hk49 : ∀ v1' v2' S, k49 v1' v2' S → J p l e rm_X11_layCures s m args below meth c b D cy 5 (zV b D cy below args s G Q) 0 0 G S 49 [(0, .ref (b + v0)), (1, .int (v1')), (2, .int (v2'))] []) (hk58 : ∀ v1' v3' S, k58 v1' v3' S → J p l e rm_X11_layCures s m args below meth c b D cy 5 (zV b D cy below args s G Q) 0 0 G S 58 [(0, .ref (b + v0)), (1, .int (v1')), (2, .int v2), (3, .int (v3'))] []) (h : f_X11_layCures_105 G k41 k49 k58 v0 v2 v3 v4 u0 Q S) : J p l e rm_X11_layCures s m args below meth c b D cy 5 (zV b D cy below args s G Q) 0 0 G S 105 [(0, .ref (b + v0)), (2, .int v2), (3, .int v3), (4, .int v4)] [.int u0] := by
  unfold f_X11_layCures_105 at h
  refine jB C [(.istore_n 1, 1, 0), (.aload_n 0, 1, 0)] 107 [(1, .int u0), (0, .ref (b + v0)), (2, .int v2), (3, .int v3), (4, .int v4)] [.ref (b + v0)] (by decide +kernel) rfl rfl ?_
  obtain ⟨a1, e_a1, h⟩ := h
  refine jGetR C 110 (by decide +kernel : decode cX11_layCures 107 = .ok (.getfield 120, 3)) rfl t_v0 kX11 45 (by decide) rfl rfl (by decide) wd_1199 e_a1 rfl (fun t_a1 => ?_)
  refine jB C [(.iload_n 2, 1, 0), (.iload 4, 2, 0), (.aload_n 0, 1, 0)] 114 [(1, .int u0), (0, .ref (b + v0)), (2, .int v2), (3, .int v3), (4, .int v4)] [.ref (b + v0), .int v4, .int v2, .ref (b + a1)] (by decide +kernel) rfl rfl ?_
  obtain ⟨a2, e_a2, h⟩ := h
  refine jGetR C 117 (by decide +kernel : decode cX11_layCures 114 = .ok (.getfield 120, 3)) rfl t_v0 kX11 45 (by decide) rfl rfl (by decide) wd_1199 e_a2 rfl (fun t_a2 => ?_)
  refine jB C [(.iload_n 2, 1, 0)] 118 [(1, .int u0), (0, .ref (b + v0)), (2, .int v2), (3, .int v3), (4, .int v4)] [.int v2, .ref (b + a2), .int v4, .int v2, .ref (b + a1)] (by decide +kernel) rfl rfl ?_
  obtain ⟨y3, h⟩ := h
  refine jIald C 119 (by decide +kernel : decode cX11_layCures 118 = .ok (.iaload, 1)) rfl t_a2 y3 ?_
  refine jIcmp_ge C 122 127 (by decide +kernel : decode cX11_layCures 119 = .ok (.if_icmp .ge 8, 3)) rfl rfl (fun c4 => ?_) (fun c4 => ?_)
  · have h := it1 h c4
    refine jB C [(.aload_n 0, 1, 0)] 128 [(1, .int u0), (0, .ref (b + v0)), (2, .int v2), (3, .int v3), (4, .int v4)] [.ref (b + v0), .int v2, .ref (b + a1)] (by decide +kernel) rfl rfl ?_
    obtain ⟨a5, e_a5, h⟩ := h
    refine jGetR C 131 (by decide +kernel : decode cX11_layCures 128 = .ok (.getfield 120, 3)) rfl t_v0 kX11 45 (by decide) rfl rfl (by decide) wd_1199 e_a5 rfl (fun t_a5 => ?_)
    refine jB C [(.iload_n 2, 1, 0)] 132 [(1, .int u0), (0, .ref (b + v0)), (2, .int v2), (3, .int v3), (4, .int v4)] [.int v2, .ref (b + a5), .int v2, .ref (b + a1)] (by decide +kernel) rfl rfl ?_
    obtain ⟨y6, h⟩ := h
    refine jIald C 133 (by decide +kernel : decode cX11_layCures 132 = .ok (.iaload, 1)) rfl t_a5 y6 ?_
    refine jSub [1, 0, 2, 3] rfl ?_
    exact j_X11_layCures_133 C hE t_v0 t_a1 hk41 hk49 hk58 h
  · have h := it2 h c4
    refine jB C [(.iload 4, 2, 0)] 124 [(1, .int u0), (0, .ref (b + v0)), (2, .int v2), (3, .int v3), (4, .int v4)] [.int v4, .int v2, .ref (b + a1)] (by decide +kernel) rfl rfl ?_
    refine jGoto C 133 (by decide +kernel : decode cX11_layCures 124 = .ok (.goto 9, 3)) rfl ?_
    refine jSub [1, 0, 2, 3] rfl ?_
    exact j_X11_layCures_133 C hE t_v0 t_a1 hk41 hk49 hk58 h
set_option maxHeartbeats 4000000 in
set_option maxRecDepth 100000 in
theorem j_X11_layCures_100 {p : Program} {l : Launch} {e : Env} {s : State} {m : MethodId} {args : Array Value} {below : List Frame} {meth : Method} {c : Code} {b : Nat} {D : va_G} {cy : Nat → ClassId} {G : Gm} {k41 : Int32 → St → Prop} {k49 : Int32 → Int32 → St → Prop} {k58 : Int32 → Int32 → St → Prop} {v0 : Nat} {v2 : Int32} {v3 : Int32} {v4 : Int32} {S : St} {Q : St → Prop} (C : CX p s m args meth c b D cy cX11_layCures RX11 5 none) (hE : s.heap.size + 0 ≤ b + G.2.2) (t_v0 : ok G 10 v0) (hk41 : ∀ v1' S, k41 v1' S → J p l e rm_X11_layCures s m args below meth c b D cy 5 (zV b D cy below args s G Q) 0 0 G S 41 [(0, .ref (b + v0)), (1, .int (v1'))] []) (hk49 : ∀ v1' v2' S, k49 v1' v2' S → J p l e rm_X11_layCures s m args below meth c b D cy 5 (zV b D cy below args s G Q) 0 0 G S 49 [(0, .ref (b + v0)), (1, .int (v1')), (2, .int (v2'))] []) (hk58 : ∀ v1' v3' S, k58 v1' v3' S → J p l e rm_X11_layCures s m args below meth c b D cy 5 (zV b D cy below args s G Q) 0 0 G S 58 [(0, .ref (b + v0)), (1, .int (v1')), (2, .int v2), (3, .int (v3'))] []) (h : f_X11_layCures_100 G k41 k49 k58 v0 v2 v3 v4 Q S) : J p l e rm_X11_layCures s m args below meth c b D cy 5 (zV b D cy below args s G Q) 0 0 G S 100 [(0, .ref (b + v0)), (2, .int v2), (3, .int v3), (4, .int v4)] [] := by
  unfold f_X11_layCures_100 at h
  refine jB C [(.iconst 1, 1, 1)] 101 [(0, .ref (b + v0)), (2, .int v2), (3, .int v3), (4, .int v4)] [.int 1] (by decide +kernel) rfl rfl ?_
  refine jGoto C 105 (by decide +kernel : decode cX11_layCures 101 = .ok (.goto 4, 3)) rfl ?_
  refine jSub [0, 1, 2, 3] rfl ?_
  exact j_X11_layCures_105 C hE t_v0 hk41 hk49 hk58 h
set_option maxHeartbeats 4000000 in
set_option maxRecDepth 100000 in
theorem j_X11_layCures_58_n {p : Program} {l : Launch} {e : Env} {s : State} {m : MethodId} {args : Array Value} {below : List Frame} {meth : Method} {c : Code} {b : Nat} {D : va_G} {cy : Nat → ClassId} {G : Gm} {k41 : Int32 → St → Prop} {k49 : Int32 → Int32 → St → Prop} {v0 : Nat} {v2 : Int32} {Q : St → Prop} (C : CX p s m args meth c b D cy cX11_layCures RX11 5 none) (hE : s.heap.size + 0 ≤ b + G.2.2) (t_v0 : ok G 10 v0) (hk41 : ∀ v1' S, k41 v1' S → J p l e rm_X11_layCures s m args below meth c b D cy 5 (zV b D cy below args s G Q) 0 0 G S 41 [(0, .ref (b + v0)), (1, .int (v1'))] []) (hk49 : ∀ v1' v2' S, k49 v1' v2' S → J p l e rm_X11_layCures s m args below meth c b D cy 5 (zV b D cy below args s G Q) 0 0 G S 49 [(0, .ref (b + v0)), (1, .int (v1')), (2, .int (v2'))] []) : ∀ k (v1 : Int32) (v3 : Int32) S, f_X11_layCures_58_n G k41 k49 v0 v2 Q k v1 v3 S → J p l e rm_X11_layCures s m args below meth c b D cy 5 (zV b D cy below args s G Q) 0 0 G S 58 [(0, .ref (b + v0)), (1, .int v1), (2, .int v2), (3, .int v3)] [] := by
  intro k
  induction k with
  | zero => intro v1 v3 S h; exact h.elim
  | succ k ih =>
    intro v1 v3 S h
    unfold f_X11_layCures_58_n at h
    refine jB C [(.iload_n 3, 1, 0), (.bipush 8, 2, 8)] 61 [(0, .ref (b + v0)), (1, .int v1), (2, .int v2), (3, .int v3)] [.int 8, .int v3] (by decide +kernel) rfl rfl ?_
    refine jIcmp_ge C 64 140 (by decide +kernel : decode cX11_layCures 61 = .ok (.if_icmp .ge 79, 3)) rfl rfl (fun c1 => ?_) (fun c1 => ?_)
    · have h := it1 h c1
      refine jB C [(.iinc 2 1, 3, 1)] 143 [(2, .int (v2 + 1)), (0, .ref (b + v0)), (1, .int v1), (3, .int v3)] [] (by decide +kernel) rfl rfl ?_
      refine jGoto C 49 (by decide +kernel : decode cX11_layCures 143 = .ok (.goto (-94), 3)) rfl ?_
      refine jSub [1, 2, 0] rfl ?_
      exact hk49 v1 (v2 + 1) S h
    · have h := it2 h c1
      refine jB C [(.aload_n 0, 1, 0)] 65 [(0, .ref (b + v0)), (1, .int v1), (2, .int v2), (3, .int v3)] [.ref (b + v0)] (by decide +kernel) rfl rfl ?_
      obtain ⟨a2, e_a2, h⟩ := h
      refine jGetR C 68 (by decide +kernel : decode cX11_layCures 65 = .ok (.getfield 120, 3)) rfl t_v0 kX11 45 (by decide) rfl rfl (by decide) wd_1199 e_a2 rfl (fun t_a2 => ?_)
      refine jB C [(.aload_n 0, 1, 0)] 69 [(0, .ref (b + v0)), (1, .int v1), (2, .int v2), (3, .int v3)] [.ref (b + v0), .ref (b + a2)] (by decide +kernel) rfl rfl ?_
      obtain ⟨a3, e_a3, h⟩ := h
      refine jGetR C 72 (by decide +kernel : decode cX11_layCures 69 = .ok (.getfield 13, 3)) rfl t_v0 kX11 3 (by decide) rfl rfl (by decide) wd_1157 e_a3 rfl (fun t_a3 => ?_)
      refine jB C [(.sipush 256, 3, 256), (.iload_n 3, 1, 0), (.imul, 1, 0), (.iload_n 2, 1, 0), (.iadd, 1, 0)] 79 [(0, .ref (b + v0)), (1, .int v1), (2, .int v2), (3, .int v3)] [.int ((256 * v3) + v2), .ref (b + a3), .ref (b + a2)] (by decide +kernel) rfl rfl ?_
      obtain ⟨y4, h⟩ := h
      refine jIald C 80 (by decide +kernel : decode cX11_layCures 79 = .ok (.iaload, 1)) rfl t_a3 y4 ?_
      obtain ⟨y5, h⟩ := h
      refine jIald C 81 (by decide +kernel : decode cX11_layCures 80 = .ok (.iaload, 1)) rfl t_a2 y5 ?_
      refine jB C [(.iconst 1, 1, 1), (.iadd, 1, 0)] 83 [(0, .ref (b + v0)), (1, .int v1), (2, .int v2), (3, .int v3)] [.int ((S.1 a2 (S.1 a3 ((256 * v3) + v2).toNatClampNeg).toNatClampNeg) + 1)] (by decide +kernel) rfl rfl ?_
      refine jTopI (fun x6 e_x6 => ?_)
      have h := h x6 e_x6
      refine jB C [(.istore 4, 2, 0), (.iload_n 1, 1, 0)] 86 [(4, .int x6), (0, .ref (b + v0)), (1, .int v1), (2, .int v2), (3, .int v3)] [.int v1] (by decide +kernel) rfl rfl ?_
      refine jIf_ne C 89 100 (by decide +kernel : decode cX11_layCures 86 = .ok (.ifCond .ne 14, 3)) rfl rfl (fun c7 => ?_) (fun c7 => ?_)
      · have h := it2 h c7
        refine jSub [1, 3, 4, 0] rfl ?_
        exact j_X11_layCures_100 C hE t_v0 hk41 hk49 ih h
      · have h := it1 h c7
        refine jB C [(.iload 4, 2, 0), (.aload_n 0, 1, 0)] 92 [(4, .int x6), (0, .ref (b + v0)), (1, .int v1), (2, .int v2), (3, .int v3)] [.ref (b + v0), .int x6] (by decide +kernel) rfl rfl ?_
        obtain ⟨a8, e_a8, h⟩ := h
        refine jGetR C 95 (by decide +kernel : decode cX11_layCures 92 = .ok (.getfield 120, 3)) rfl t_v0 kX11 45 (by decide) rfl rfl (by decide) wd_1199 e_a8 rfl (fun t_a8 => ?_)
        refine jB C [(.iload_n 2, 1, 0)] 96 [(4, .int x6), (0, .ref (b + v0)), (1, .int v1), (2, .int v2), (3, .int v3)] [.int v2, .ref (b + a8), .int x6] (by decide +kernel) rfl rfl ?_
        obtain ⟨y9, h⟩ := h
        refine jIald C 97 (by decide +kernel : decode cX11_layCures 96 = .ok (.iaload, 1)) rfl t_a8 y9 ?_
        refine jIcmp_ge C 100 104 (by decide +kernel : decode cX11_layCures 97 = .ok (.if_icmp .ge 7, 3)) rfl rfl (fun c10 => ?_) (fun c10 => ?_)
        · have h := it1 h c10
          refine jB C [(.iconst 0, 1, 0)] 105 [(4, .int x6), (0, .ref (b + v0)), (1, .int v1), (2, .int v2), (3, .int v3)] [.int 0] (by decide +kernel) rfl rfl ?_
          refine jSub [1, 3, 4, 0] rfl ?_
          exact j_X11_layCures_105 C hE t_v0 hk41 hk49 ih h
        · have h := it2 h c10
          refine jSub [1, 3, 4, 0] rfl ?_
          exact j_X11_layCures_100 C hE t_v0 hk41 hk49 ih h
theorem j_X11_layCures_58 {p : Program} {l : Launch} {e : Env} {s : State} {m : MethodId} {args : Array Value} {below : List Frame} {meth : Method} {c : Code} {b : Nat} {D : va_G} {cy : Nat → ClassId} {G : Gm} {k41 : Int32 → St → Prop} {k49 : Int32 → Int32 → St → Prop} {v0 : Nat} {v2 : Int32} {v1 : Int32} {v3 : Int32} {S : St} {Q : St → Prop} (C : CX p s m args meth c b D cy cX11_layCures RX11 5 none) (hE : s.heap.size + 0 ≤ b + G.2.2) (t_v0 : ok G 10 v0) (hk41 : ∀ v1' S, k41 v1' S → J p l e rm_X11_layCures s m args below meth c b D cy 5 (zV b D cy below args s G Q) 0 0 G S 41 [(0, .ref (b + v0)), (1, .int (v1'))] []) (hk49 : ∀ v1' v2' S, k49 v1' v2' S → J p l e rm_X11_layCures s m args below meth c b D cy 5 (zV b D cy below args s G Q) 0 0 G S 49 [(0, .ref (b + v0)), (1, .int (v1')), (2, .int (v2'))] []) (h : f_X11_layCures_58 G k41 k49 v0 v2 Q v1 v3 S) : J p l e rm_X11_layCures s m args below meth c b D cy 5 (zV b D cy below args s G Q) 0 0 G S 58 [(0, .ref (b + v0)), (1, .int v1), (2, .int v2), (3, .int v3)] [] := by
  obtain ⟨k, h⟩ := h
  exact j_X11_layCures_58_n C hE t_v0 hk41 hk49 k v1 v3 S h
set_option maxHeartbeats 4000000 in
set_option maxRecDepth 100000 in
theorem j_X11_layCures_49_n {p : Program} {l : Launch} {e : Env} {s : State} {m : MethodId} {args : Array Value} {below : List Frame} {meth : Method} {c : Code} {b : Nat} {D : va_G} {cy : Nat → ClassId} {G : Gm} {k41 : Int32 → St → Prop} {v0 : Nat} {Q : St → Prop} (C : CX p s m args meth c b D cy cX11_layCures RX11 5 none) (hE : s.heap.size + 0 ≤ b + G.2.2) (t_v0 : ok G 10 v0) (hk41 : ∀ v1' S, k41 v1' S → J p l e rm_X11_layCures s m args below meth c b D cy 5 (zV b D cy below args s G Q) 0 0 G S 41 [(0, .ref (b + v0)), (1, .int (v1'))] []) : ∀ k (v1 : Int32) (v2 : Int32) S, f_X11_layCures_49_n G k41 v0 Q k v1 v2 S → J p l e rm_X11_layCures s m args below meth c b D cy 5 (zV b D cy below args s G Q) 0 0 G S 49 [(0, .ref (b + v0)), (1, .int v1), (2, .int v2)] [] := by
  intro k
  induction k with
  | zero => intro v1 v2 S h; exact h.elim
  | succ k ih =>
    intro v1 v2 S h
    unfold f_X11_layCures_49_n at h
    refine jB C [(.iload_n 2, 1, 0), (.sipush 256, 3, 256)] 53 [(0, .ref (b + v0)), (1, .int v1), (2, .int v2)] [.int 256, .int v2] (by decide +kernel) rfl rfl ?_
    refine jIcmp_ge C 56 146 (by decide +kernel : decode cX11_layCures 53 = .ok (.if_icmp .ge 93, 3)) rfl rfl (fun c1 => ?_) (fun c1 => ?_)
    · have h := it1 h c1
      refine jGoto C 41 (by decide +kernel : decode cX11_layCures 146 = .ok (.goto (-105), 3)) rfl ?_
      refine jSub [0, 1] rfl ?_
      exact hk41 v1 S h
    · have h := it2 h c1
      refine jB C [(.iconst 0, 1, 0), (.istore_n 3, 1, 0)] 58 [(3, .int 0), (0, .ref (b + v0)), (1, .int v1), (2, .int v2)] [] (by decide +kernel) rfl rfl ?_
      refine jSub [1, 2, 3, 0] rfl ?_
      exact j_X11_layCures_58 C hE t_v0 hk41 ih h
theorem j_X11_layCures_49 {p : Program} {l : Launch} {e : Env} {s : State} {m : MethodId} {args : Array Value} {below : List Frame} {meth : Method} {c : Code} {b : Nat} {D : va_G} {cy : Nat → ClassId} {G : Gm} {k41 : Int32 → St → Prop} {v0 : Nat} {v1 : Int32} {v2 : Int32} {S : St} {Q : St → Prop} (C : CX p s m args meth c b D cy cX11_layCures RX11 5 none) (hE : s.heap.size + 0 ≤ b + G.2.2) (t_v0 : ok G 10 v0) (hk41 : ∀ v1' S, k41 v1' S → J p l e rm_X11_layCures s m args below meth c b D cy 5 (zV b D cy below args s G Q) 0 0 G S 41 [(0, .ref (b + v0)), (1, .int (v1'))] []) (h : f_X11_layCures_49 G k41 v0 Q v1 v2 S) : J p l e rm_X11_layCures s m args below meth c b D cy 5 (zV b D cy below args s G Q) 0 0 G S 49 [(0, .ref (b + v0)), (1, .int v1), (2, .int v2)] [] := by
  obtain ⟨k, h⟩ := h
  exact j_X11_layCures_49_n C hE t_v0 hk41 k v1 v2 S h
set_option maxHeartbeats 4000000 in
set_option maxRecDepth 100000 in
theorem j_X11_layCures_41_n {p : Program} {l : Launch} {e : Env} {s : State} {m : MethodId} {args : Array Value} {below : List Frame} {meth : Method} {c : Code} {b : Nat} {D : va_G} {cy : Nat → ClassId} {G : Gm} {v0 : Nat} {Q : St → Prop} (C : CX p s m args meth c b D cy cX11_layCures RX11 5 none) (hE : s.heap.size + 0 ≤ b + G.2.2) (t_v0 : ok G 10 v0) : ∀ k (v1 : Int32) S, f_X11_layCures_41_n G v0 Q k v1 S → J p l e rm_X11_layCures s m args below meth c b D cy 5 (zV b D cy below args s G Q) 0 0 G S 41 [(0, .ref (b + v0)), (1, .int v1)] [] := by
  intro k
  induction k with
  | zero => intro v1 S h; exact h.elim
  | succ k ih =>
    intro v1 S h
    unfold f_X11_layCures_41_n at h
    refine jB C [(.iload_n 1, 1, 0)] 42 [(0, .ref (b + v0)), (1, .int v1)] [.int v1] (by decide +kernel) rfl rfl ?_
    refine jIf_eq C 45 149 (by decide +kernel : decode cX11_layCures 42 = .ok (.ifCond .eq 107, 3)) rfl rfl (fun c1 => ?_) (fun c1 => ?_)
    · have h := it1 h c1
      exact jRetV C (by decide +kernel : decode cX11_layCures 149 = .ok (.return_, 1)) (Nat.le_refl _) (Nat.le_refl _) ⟨rfl, h⟩
    · have h := it2 h c1
      refine jB C [(.iconst 0, 1, 0), (.istore_n 1, 1, 0), (.iconst 0, 1, 0), (.istore_n 2, 1, 0)] 49 [(2, .int 0), (1, .int 0), (0, .ref (b + v0))] [] (by decide +kernel) rfl rfl ?_
      refine jSub [2, 1, 0] rfl ?_
      exact j_X11_layCures_49 C hE t_v0 ih h
theorem j_X11_layCures_41 {p : Program} {l : Launch} {e : Env} {s : State} {m : MethodId} {args : Array Value} {below : List Frame} {meth : Method} {c : Code} {b : Nat} {D : va_G} {cy : Nat → ClassId} {G : Gm} {v0 : Nat} {v1 : Int32} {S : St} {Q : St → Prop} (C : CX p s m args meth c b D cy cX11_layCures RX11 5 none) (hE : s.heap.size + 0 ≤ b + G.2.2) (t_v0 : ok G 10 v0) (h : f_X11_layCures_41 G v0 Q v1 S) : J p l e rm_X11_layCures s m args below meth c b D cy 5 (zV b D cy below args s G Q) 0 0 G S 41 [(0, .ref (b + v0)), (1, .int v1)] [] := by
  obtain ⟨k, h⟩ := h
  exact j_X11_layCures_41_n C hE t_v0 k v1 S h
set_option maxHeartbeats 4000000 in
set_option maxRecDepth 100000 in
theorem j_X11_layCures_32 {p : Program} {l : Launch} {e : Env} {s : State} {m : MethodId} {args : Array Value} {below : List Frame} {meth : Method} {c : Code} {b : Nat} {D : va_G} {cy : Nat → ClassId} {G : Gm} {k2 : Int32 → St → Prop} {v0 : Nat} {v1 : Int32} {u0 : Int32} {u1 : Int32} {u2 : Nat} {S : St} {Q : St → Prop} (C : CX p s m args meth c b D cy cX11_layCures RX11 5 none) (hE : s.heap.size + 0 ≤ b + G.2.2) (t_v0 : ok G 10 v0) (t_u2 : ok G 11 u2) (hk2 : ∀ v1' S, k2 v1' S → J p l e rm_X11_layCures s m args below meth c b D cy 5 (zV b D cy below args s G Q) 0 0 G S 2 [(0, .ref (b + v0)), (1, .int (v1'))] []) (h : f_X11_layCures_32 G k2 v0 v1 u0 u1 u2 Q S) : J p l e rm_X11_layCures s m args below meth c b D cy 5 (zV b D cy below args s G Q) 0 0 G S 32 [(0, .ref (b + v0)), (1, .int v1)] [.int u0, .int u1, .ref (b + u2)] := by
  unfold f_X11_layCures_32 at h
  obtain ⟨y1, h⟩ := h
  refine jIast C 33 (by decide +kernel : decode cX11_layCures 32 = .ok (.iastore, 1)) rfl hE t_u2 y1 ?_
  refine jTopS (fun S2 e_S2 => ?_)
  have h := h S2 e_S2
  refine jB C [(.iinc 1 1, 3, 1)] 36 [(1, .int (v1 + 1)), (0, .ref (b + v0))] [] (by decide +kernel) rfl rfl ?_
  refine jGoto C 2 (by decide +kernel : decode cX11_layCures 36 = .ok (.goto (-34), 3)) rfl ?_
  refine jSub [1, 0] rfl ?_
  exact hk2 (v1 + 1) S2 h
set_option maxHeartbeats 4000000 in
set_option maxRecDepth 100000 in
theorem j_X11_layCures_2_n {p : Program} {l : Launch} {e : Env} {s : State} {m : MethodId} {args : Array Value} {below : List Frame} {meth : Method} {c : Code} {b : Nat} {D : va_G} {cy : Nat → ClassId} {G : Gm} {v0 : Nat} {Q : St → Prop} (C : CX p s m args meth c b D cy cX11_layCures RX11 5 none) (hE : s.heap.size + 0 ≤ b + G.2.2) (t_v0 : ok G 10 v0) : ∀ k (v1 : Int32) S, f_X11_layCures_2_n G v0 Q k v1 S → J p l e rm_X11_layCures s m args below meth c b D cy 5 (zV b D cy below args s G Q) 0 0 G S 2 [(0, .ref (b + v0)), (1, .int v1)] [] := by
  intro k
  induction k with
  | zero => intro v1 S h; exact h.elim
  | succ k ih =>
    intro v1 S h
    unfold f_X11_layCures_2_n at h
    refine jB C [(.iload_n 1, 1, 0), (.sipush 256, 3, 256)] 6 [(0, .ref (b + v0)), (1, .int v1)] [.int 256, .int v1] (by decide +kernel) rfl rfl ?_
    refine jIcmp_ge C 9 39 (by decide +kernel : decode cX11_layCures 6 = .ok (.if_icmp .ge 33, 3)) rfl rfl (fun c1 => ?_) (fun c1 => ?_)
    · have h := it1 h c1
      refine jB C [(.iconst 1, 1, 1), (.istore_n 1, 1, 0)] 41 [(1, .int 1), (0, .ref (b + v0))] [] (by decide +kernel) rfl rfl ?_
      refine jSub [1, 0] rfl ?_
      exact j_X11_layCures_41 C hE t_v0 h
    · have h := it2 h c1
      refine jB C [(.aload_n 0, 1, 0)] 10 [(0, .ref (b + v0)), (1, .int v1)] [.ref (b + v0)] (by decide +kernel) rfl rfl ?_
      obtain ⟨a2, e_a2, h⟩ := h
      refine jGetR C 13 (by decide +kernel : decode cX11_layCures 10 = .ok (.getfield 120, 3)) rfl t_v0 kX11 45 (by decide) rfl rfl (by decide) wd_1199 e_a2 rfl (fun t_a2 => ?_)
      refine jB C [(.iload_n 1, 1, 0), (.iload_n 1, 1, 0), (.aload_n 0, 1, 0)] 16 [(0, .ref (b + v0)), (1, .int v1)] [.ref (b + v0), .int v1, .int v1, .ref (b + a2)] (by decide +kernel) rfl rfl ?_
      obtain ⟨a3, e_a3, h⟩ := h
      refine jGetR C 19 (by decide +kernel : decode cX11_layCures 16 = .ok (.getfield 16, 3)) rfl t_v0 kX11 4 (by decide) rfl rfl (by decide) wd_1158 e_a3 rfl (fun t_a3 => ?_)
      refine jB C [(.bipush 7, 2, 7)] 21 [(0, .ref (b + v0)), (1, .int v1)] [.int 7, .ref (b + a3), .int v1, .int v1, .ref (b + a2)] (by decide +kernel) rfl rfl ?_
      obtain ⟨y4, h⟩ := h
      refine jIald C 22 (by decide +kernel : decode cX11_layCures 21 = .ok (.iaload, 1)) rfl t_a3 y4 ?_
      refine jIcmp_ne C 25 29 (by decide +kernel : decode cX11_layCures 22 = .ok (.if_icmp .ne 7, 3)) rfl rfl (fun c5 => ?_) (fun c5 => ?_)
      · have h := it2 h c5
        refine jLdcw C 32 (by decide +kernel : decode cX11_layCures 29 = .ok (.ldc_w 495, 3)) rfl wd_1711 ?_
        refine jSub [0, 1] rfl ?_
        exact j_X11_layCures_32 C hE t_v0 t_a2 ih h
      · have h := it1 h c5
        refine jB C [(.iconst 0, 1, 0)] 26 [(0, .ref (b + v0)), (1, .int v1)] [.int 0, .int v1, .ref (b + a2)] (by decide +kernel) rfl rfl ?_
        refine jGoto C 32 (by decide +kernel : decode cX11_layCures 26 = .ok (.goto 6, 3)) rfl ?_
        refine jSub [0, 1] rfl ?_
        exact j_X11_layCures_32 C hE t_v0 t_a2 ih h
theorem j_X11_layCures_2 {p : Program} {l : Launch} {e : Env} {s : State} {m : MethodId} {args : Array Value} {below : List Frame} {meth : Method} {c : Code} {b : Nat} {D : va_G} {cy : Nat → ClassId} {G : Gm} {v0 : Nat} {v1 : Int32} {S : St} {Q : St → Prop} (C : CX p s m args meth c b D cy cX11_layCures RX11 5 none) (hE : s.heap.size + 0 ≤ b + G.2.2) (t_v0 : ok G 10 v0) (h : f_X11_layCures_2 G v0 Q v1 S) : J p l e rm_X11_layCures s m args below meth c b D cy 5 (zV b D cy below args s G Q) 0 0 G S 2 [(0, .ref (b + v0)), (1, .int v1)] [] := by
  obtain ⟨k, h⟩ := h
  exact j_X11_layCures_2_n C hE t_v0 k v1 S h
set_option maxHeartbeats 4000000 in
set_option maxRecDepth 100000 in
theorem j_X11_layCures {p : Program} {l : Launch} {e : Env} {s : State} {m : MethodId} {args : Array Value} {below : List Frame} {meth : Method} {c : Code} {b : Nat} {D : va_G} {cy : Nat → ClassId} {G : Gm} {v0 : Nat} {S : St} {Q : St → Prop} (C : CX p s m args meth c b D cy cX11_layCures RX11 5 none) (hE : s.heap.size + 0 ≤ b + G.2.2) (t_v0 : ok G 10 v0) (h : f_X11_layCures G v0 Q S) : J p l e rm_X11_layCures s m args below meth c b D cy 5 (zV b D cy below args s G Q) 0 0 G S 0 [(0, .ref (b + v0))] [] := by
  unfold f_X11_layCures at h
  refine jB C [(.iconst 0, 1, 0), (.istore_n 1, 1, 0)] 2 [(1, .int 0), (0, .ref (b + v0))] [] (by decide +kernel) rfl rfl ?_
  refine jSub [1, 0] rfl ?_
  exact j_X11_layCures_2 C hE t_v0 h
theorem ok_X11_layCures {G : Gm} {v0 : Nat} {S : St} {Q : St → Prop}  (t_v0 : ok G 10 v0) (h : f_X11_layCures G v0 Q S) : MT yX11_layCures cX11_layCures 5 none rm_X11_layCures 0 0 (fun b => [.ref (b + v0)]) G S (QV (fun G1 S1 => G1 = G ∧ Q S1)) := MT.ofJ (by decide +kernel) (fun b => [(0, .ref (b + v0))]) (fun b => rfl) (fun b => Nat.le_of_ble_eq_true rfl) (fun l b D cy p e s m below meth c C hE hn => j_X11_layCures C hE t_v0 h)
theorem hd_X11_layCures : yX11_layCures.cls ≠ "java/lang/invoke/MethodHandle" ∧ yX11_layCures.cls ≠ "java/lang/invoke/VarHandle" ∧ (parseMethodDescriptor yX11_layCures.desc).map (fun d => d.parameters.length) = some 0 := by decide +kernel
