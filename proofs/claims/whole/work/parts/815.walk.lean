abbrev rm_X11_isSight : Room := { frames := 1, cells := 0, slots := 0, locals := 25 }
set_option maxHeartbeats 4000000 in
set_option maxRecDepth 100000 in
theorem j_X11_isSight {p : Program} {l : Launch} {e : Env} {s : State} {m : MethodId} {args : Array Value} {below : List Frame} {meth : Method} {c : Code} {b : Nat} {D : va_G} {cy : Nat → ClassId} {G : Gm} {v0 : Int32} {S : St} {Q : Int32 → St → Prop} (C : CX p s m args meth c b D cy cX11_isSight RX11 1 (some .boolean)) (hE : s.heap.size + 0 ≤ b + G.2.2) (h : f_X11_isSight G v0 Q S) : J p l e rm_X11_isSight s m args below meth c b D cy 1 (zI b D cy below args s G Q) 0 0 G S 0 [(0, .int v0)] [] := by
  unfold f_X11_isSight at h
  refine jB C [(.iload_n 0, 1, 0), (.i2l, 1, 0), (.lconst 0, 1, 0)] 3 [(0, .int v0)] [.long 0, .long v0.toInt64] (by decide +kernel) rfl rfl ?_
  refine jLdc2 C 6 (by decide +kernel : decode cX11_isSight 3 = .ok (.ldc2_w 194, 3)) rfl wd_1477 ?_
  refine jcS_I C 9 (rest := []) (ok_X11_in h) (by decide +kernel : decode cX11_isSight 6 = .ok (.invokestatic 185, 3)) rfl wd_1352 wd_1353 wd_12 wd_1354 ⟨rfl, rfl⟩ hd_X11_in ⟨Nat.le_of_ble_eq_true rfl, Nat.le_of_ble_eq_true rfl⟩ rfl rfl (Nat.le_of_ble_eq_true rfl) ⟨Nat.zero_le _, Nat.zero_le _⟩ (fun r2 S1 h => ?_)
  exact jRetZ C (by decide +kernel : decode cX11_isSight 9 = .ok (.ireturn, 1)) (Nat.le_refl _) (Nat.le_refl _) h.1 ⟨rfl, h.2⟩
theorem ok_X11_isSight {G : Gm} {v0 : Int32} {S : St} {Q : Int32 → St → Prop}  (h : f_X11_isSight G v0 Q S) : MT yX11_isSight cX11_isSight 1 (some .boolean) rm_X11_isSight 0 0 (fun b => [.int v0]) G S (QI (fun r G1 S1 => G1 = G ∧ Q r S1)) := MT.ofJ (by decide +kernel) (fun b => [(0, .int v0)]) (fun b => rfl) (fun b => Nat.le_of_ble_eq_true rfl) (fun l b D cy p e s m below meth c C hE hn => j_X11_isSight C hE h)
theorem hd_X11_isSight : yX11_isSight.cls ≠ "java/lang/invoke/MethodHandle" ∧ yX11_isSight.cls ≠ "java/lang/invoke/VarHandle" ∧ (parseMethodDescriptor yX11_isSight.desc).map (fun d => d.parameters.length) = some 1 := by decide +kernel
abbrev rm_X11_isTerm : Room := { frames := 2, cells := 0, slots := 0, locals := 45 }
set_option maxHeartbeats 4000000 in
set_option maxRecDepth 100000 in
theorem j_X11_isTerm {p : Program} {l : Launch} {e : Env} {s : State} {m : MethodId} {args : Array Value} {below : List Frame} {meth : Method} {c : Code} {b : Nat} {D : va_G} {cy : Nat → ClassId} {G : Gm} {v0 : Int32} {v1 : Int32} {S : St} {Q : Int32 → St → Prop} (C : CX p s m args meth c b D cy cX11_isTerm RX11 2 (some .boolean)) (hE : s.heap.size + 0 ≤ b + G.2.2) (h : f_X11_isTerm G v0 v1 Q S) : J p l e rm_X11_isTerm s m args below meth c b D cy 2 (zI b D cy below args s G Q) 0 0 G S 0 [(0, .int v0), (1, .int v1)] [] := by
  unfold f_X11_isTerm at h
  refine jB C [(.iload_n 0, 1, 0)] 1 [(0, .int v0), (1, .int v1)] [.int v0] (by decide +kernel) rfl rfl ?_
  by_cases c9_0 : v0 = 0
  · have h := it1 h c9_0
    refine jTabIn C 32 0 (by decide +kernel : decode cX11_isTerm 1 = .ok (.tableswitch 66 0 3 #[31, 41, 51, 61], 31)) c9_0 ⟨rfl, rfl, rfl, rfl⟩ ?_
    refine jB C [(.iload_n 1, 1, 0), (.i2l, 1, 0), (.lconst 0, 1, 0)] 35 [(0, .int v0), (1, .int v1)] [.long 0, .long v1.toInt64] (by decide +kernel) rfl rfl ?_
    refine jLdc2 C 38 (by decide +kernel : decode cX11_isTerm 35 = .ok (.ldc2_w 250, 3)) rfl wd_1485 ?_
    refine jcS_I C 41 (rest := []) (ok_X11_in h) (by decide +kernel : decode cX11_isTerm 38 = .ok (.invokestatic 185, 3)) rfl wd_1352 wd_1353 wd_12 wd_1354 ⟨rfl, rfl⟩ hd_X11_in ⟨Nat.le_of_ble_eq_true rfl, Nat.le_of_ble_eq_true rfl⟩ rfl rfl (Nat.le_of_ble_eq_true rfl) ⟨Nat.zero_le _, Nat.zero_le _⟩ (fun r2 S1 h => ?_)
    exact jRetZ C (by decide +kernel : decode cX11_isTerm 41 = .ok (.ireturn, 1)) (Nat.le_refl _) (Nat.le_refl _) h.1 ⟨rfl, h.2⟩
  · have h := it2 h c9_0
    by_cases c9_1 : v0 = 1
    · have h := it1 h c9_1
      refine jTabIn C 42 1 (by decide +kernel : decode cX11_isTerm 1 = .ok (.tableswitch 66 0 3 #[31, 41, 51, 61], 31)) c9_1 ⟨rfl, rfl, rfl, rfl⟩ ?_
      refine jB C [(.iload_n 1, 1, 0), (.i2l, 1, 0), (.lconst 0, 1, 0)] 45 [(0, .int v0), (1, .int v1)] [.long 0, .long v1.toInt64] (by decide +kernel) rfl rfl ?_
      refine jLdc2 C 48 (by decide +kernel : decode cX11_isTerm 45 = .ok (.ldc2_w 252, 3)) rfl wd_1486 ?_
      refine jcS_I C 51 (rest := []) (ok_X11_in h) (by decide +kernel : decode cX11_isTerm 48 = .ok (.invokestatic 185, 3)) rfl wd_1352 wd_1353 wd_12 wd_1354 ⟨rfl, rfl⟩ hd_X11_in ⟨Nat.le_of_ble_eq_true rfl, Nat.le_of_ble_eq_true rfl⟩ rfl rfl (Nat.le_of_ble_eq_true rfl) ⟨Nat.zero_le _, Nat.zero_le _⟩ (fun r4 S3 h => ?_)
      exact jRetZ C (by decide +kernel : decode cX11_isTerm 51 = .ok (.ireturn, 1)) (Nat.le_refl _) (Nat.le_refl _) h.1 ⟨rfl, h.2⟩
    · have h := it2 h c9_1
      by_cases c9_2 : v0 = 2
      · have h := it1 h c9_2
        refine jTabIn C 52 2 (by decide +kernel : decode cX11_isTerm 1 = .ok (.tableswitch 66 0 3 #[31, 41, 51, 61], 31)) c9_2 ⟨rfl, rfl, rfl, rfl⟩ ?_
        refine jB C [(.iload_n 1, 1, 0), (.i2l, 1, 0), (.lconst 0, 1, 0)] 55 [(0, .int v0), (1, .int v1)] [.long 0, .long v1.toInt64] (by decide +kernel) rfl rfl ?_
        refine jLdc2 C 58 (by decide +kernel : decode cX11_isTerm 55 = .ok (.ldc2_w 254, 3)) rfl wd_1487 ?_
        refine jcS_I C 61 (rest := []) (ok_X11_in h) (by decide +kernel : decode cX11_isTerm 58 = .ok (.invokestatic 185, 3)) rfl wd_1352 wd_1353 wd_12 wd_1354 ⟨rfl, rfl⟩ hd_X11_in ⟨Nat.le_of_ble_eq_true rfl, Nat.le_of_ble_eq_true rfl⟩ rfl rfl (Nat.le_of_ble_eq_true rfl) ⟨Nat.zero_le _, Nat.zero_le _⟩ (fun r6 S5 h => ?_)
        exact jRetZ C (by decide +kernel : decode cX11_isTerm 61 = .ok (.ireturn, 1)) (Nat.le_refl _) (Nat.le_refl _) h.1 ⟨rfl, h.2⟩
      · have h := it2 h c9_2
        by_cases c9_3 : v0 = 3
        · have h := it1 h c9_3
          refine jTabIn C 62 3 (by decide +kernel : decode cX11_isTerm 1 = .ok (.tableswitch 66 0 3 #[31, 41, 51, 61], 31)) c9_3 ⟨rfl, rfl, rfl, rfl⟩ ?_
          refine jB C [(.iload_n 1, 1, 0)] 63 [(0, .int v0), (1, .int v1)] [.int v1] (by decide +kernel) rfl rfl ?_
          refine jcS_I C 66 (rest := []) (ok_X11_isSight h) (by decide +kernel : decode cX11_isTerm 63 = .ok (.invokestatic 247, 3)) rfl wd_1474 wd_1475 wd_12 wd_1476 ⟨rfl, rfl⟩ hd_X11_isSight ⟨Nat.le_of_ble_eq_true rfl, Nat.le_of_ble_eq_true rfl⟩ rfl rfl (Nat.le_of_ble_eq_true rfl) ⟨Nat.zero_le _, Nat.zero_le _⟩ (fun r8 S7 h => ?_)
          exact jRetZ C (by decide +kernel : decode cX11_isTerm 66 = .ok (.ireturn, 1)) (Nat.le_refl _) (Nat.le_refl _) h.1 ⟨rfl, h.2⟩
        · have h := it2 h c9_3
          refine jTabOut C 67 (by decide +kernel : decode cX11_isTerm 1 = .ok (.tableswitch 66 0 3 #[31, 41, 51, 61], 31)) rfl (by have := lv_neT c9_0 (a := 0) rfl; have := lv_neT c9_1 (a := 1) rfl; have := lv_neT c9_2 (a := 2) rfl; have := lv_neT c9_3 (a := 3) rfl; omega) ?_
          refine jB C [(.iconst 0, 1, 0)] 68 [(0, .int v0), (1, .int v1)] [.int 0] (by decide +kernel) rfl rfl ?_
          exact jRetZ C (by decide +kernel : decode cX11_isTerm 68 = .ok (.ireturn, 1)) (Nat.le_refl _) (Nat.le_refl _) (by decide) ⟨rfl, h⟩
theorem ok_X11_isTerm {G : Gm} {v0 : Int32} {v1 : Int32} {S : St} {Q : Int32 → St → Prop}  (h : f_X11_isTerm G v0 v1 Q S) : MT yX11_isTerm cX11_isTerm 2 (some .boolean) rm_X11_isTerm 0 0 (fun b => [.int v0, .int v1]) G S (QI (fun r G1 S1 => G1 = G ∧ Q r S1)) := MT.ofJ (by decide +kernel) (fun b => [(0, .int v0), (1, .int v1)]) (fun b => rfl) (fun b => Nat.le_of_ble_eq_true rfl) (fun l b D cy p e s m below meth c C hE hn => j_X11_isTerm C hE h)
theorem hd_X11_isTerm : yX11_isTerm.cls ≠ "java/lang/invoke/MethodHandle" ∧ yX11_isTerm.cls ≠ "java/lang/invoke/VarHandle" ∧ (parseMethodDescriptor yX11_isTerm.desc).map (fun d => d.parameters.length) = some 2 := by decide +kernel
abbrev rm_X11_openBracket : Room := { frames := 3, cells := 0, slots := 0, locals := 61 }
set_option maxHeartbeats 4000000 in
set_option maxRecDepth 100000 in
theorem j_X11_openBracket_15 {p : Program} {l : Launch} {e : Env} {s : State} {m : MethodId} {args : Array Value} {below : List Frame} {meth : Method} {c : Code} {b : Nat} {D : va_G} {cy : Nat → ClassId} {G : Gm} {v0 : Nat} {v1 : Int32} {u0 : Int32} {u1 : Nat} {S : St} {Q : St → Prop} (C : CX p s m args meth c b D cy cX11_openBracket RX11 2 none) (hE : s.heap.size + 0 ≤ b + G.2.2) (t_v0 : ok G 10 v0) (t_u1 : ok G 10 u1) (h : f_X11_openBracket_15 G v0 v1 u0 u1 Q S) : J p l e rm_X11_openBracket s m args below meth c b D cy 2 (zV b D cy below args s G Q) 0 0 G S 15 [(0, .ref (b + v0)), (1, .int v1)] [.int u0, .ref (b + u1)] := by
  unfold f_X11_openBracket_15 at h
  refine jcV_V C 18 (rest := []) (ok_X11_must t_u1 h) (by decide +kernel : decode cX11_openBracket 15 = .ok (.invokevirtual 304, 3)) rfl wd_1546 wd_1548 wp_124 wd_12 wd_1549 ⟨rfl, rfl⟩ hd_X11_must ⟨Nat.le_of_ble_eq_true rfl, Nat.le_of_ble_eq_true rfl⟩ t_u1 kX11 (by decide) rfl rfl rfl (Nat.le_of_ble_eq_true rfl) ⟨Nat.zero_le _, Nat.zero_le _⟩ (fun S1 h => ?_)
  refine jB C [(.aload_n 0, 1, 0)] 19 [(0, .ref (b + v0)), (1, .int v1)] [.ref (b + v0)] (by decide +kernel) rfl rfl ?_
  refine jGetI C 22 (by decide +kernel : decode cX11_openBracket 19 = .ok (.getfield 271, 3)) rfl t_v0 kX11 20 (by decide) rfl rfl (by decide) wd_1174 ?_
  refine jIf_ne C 25 41 (by decide +kernel : decode cX11_openBracket 22 = .ok (.ifCond .ne 19, 3)) rfl rfl (fun c2 => ?_) (fun c2 => ?_)
  · have h := it2 h c2
    exact jRetV C (by decide +kernel : decode cX11_openBracket 41 = .ok (.return_, 1)) (Nat.le_refl _) (Nat.le_refl _) ⟨rfl, h⟩
  · have h := it1 h c2
    refine jB C [(.aload_n 0, 1, 0), (.dup, 1, 0)] 27 [(0, .ref (b + v0)), (1, .int v1)] [.ref (b + v0), .ref (b + v0)] (by decide +kernel) rfl rfl ?_
    refine jGetI C 30 (by decide +kernel : decode cX11_openBracket 27 = .ok (.getfield 332, 3)) rfl t_v0 kX11 31 (by decide) rfl rfl (by decide) wd_1185 ?_
    refine jB C [(.iconst 1, 1, 1), (.iadd, 1, 0)] 32 [(0, .ref (b + v0)), (1, .int v1)] [.int ((S1.1 v0 31) + 1), .ref (b + v0)] (by decide +kernel) rfl rfl ?_
    refine jPutI C 35 (by decide +kernel : decode cX11_openBracket 32 = .ok (.putfield 332, 3)) rfl hE t_v0 kX11 31 (by decide) rfl rfl (by decide) rfl wd_1185 rfl rfl rfl ?_
    refine jTopS (fun S3 e_S3 => ?_)
    have h := h S3 e_S3
    refine jB C [(.aload_n 0, 1, 0), (.iload_n 1, 1, 0), (.iconst 0, 1, 0)] 38 [(0, .ref (b + v0)), (1, .int v1)] [.int 0, .int v1, .ref (b + v0)] (by decide +kernel) rfl rfl ?_
    refine jcV_V C 41 (rest := []) (ok_X11_push t_v0 h) (by decide +kernel : decode cX11_openBracket 38 = .ok (.invokevirtual 335, 3)) rfl wd_1559 wd_1561 wp_127 wd_12 wd_1562 ⟨rfl, rfl⟩ hd_X11_push ⟨Nat.le_of_ble_eq_true rfl, Nat.le_of_ble_eq_true rfl⟩ t_v0 kX11 (by decide) rfl rfl rfl (Nat.le_of_ble_eq_true rfl) ⟨Nat.zero_le _, Nat.zero_le _⟩ (fun S4 h => ?_)
    exact jRetV C (by decide +kernel : decode cX11_openBracket 41 = .ok (.return_, 1)) (Nat.le_refl _) (Nat.le_refl _) ⟨rfl, h⟩
set_option maxHeartbeats 4000000 in
set_option maxRecDepth 100000 in
theorem j_X11_openBracket {p : Program} {l : Launch} {e : Env} {s : State} {m : MethodId} {args : Array Value} {below : List Frame} {meth : Method} {c : Code} {b : Nat} {D : va_G} {cy : Nat → ClassId} {G : Gm} {v0 : Nat} {v1 : Int32} {S : St} {Q : St → Prop} (C : CX p s m args meth c b D cy cX11_openBracket RX11 2 none) (hE : s.heap.size + 0 ≤ b + G.2.2) (t_v0 : ok G 10 v0) (h : f_X11_openBracket G v0 v1 Q S) : J p l e rm_X11_openBracket s m args below meth c b D cy 2 (zV b D cy below args s G Q) 0 0 G S 0 [(0, .ref (b + v0)), (1, .int v1)] [] := by
  unfold f_X11_openBracket at h
  refine jB C [(.aload_n 0, 1, 0), (.aload_n 0, 1, 0)] 2 [(0, .ref (b + v0)), (1, .int v1)] [.ref (b + v0), .ref (b + v0)] (by decide +kernel) rfl rfl ?_
  refine jGetI C 5 (by decide +kernel : decode cX11_openBracket 2 = .ok (.getfield 332, 3)) rfl t_v0 kX11 31 (by decide) rfl rfl (by decide) wd_1185 ?_
  refine jB C [(.bipush 8, 2, 8)] 7 [(0, .ref (b + v0)), (1, .int v1)] [.int 8, .int (S.1 v0 31), .ref (b + v0)] (by decide +kernel) rfl rfl ?_
  refine jIcmp_ge C 10 14 (by decide +kernel : decode cX11_openBracket 7 = .ok (.if_icmp .ge 7, 3)) rfl rfl (fun c1 => ?_) (fun c1 => ?_)
  · have h := it1 h c1
    refine jB C [(.iconst 0, 1, 0)] 15 [(0, .ref (b + v0)), (1, .int v1)] [.int 0, .ref (b + v0)] (by decide +kernel) rfl rfl ?_
    refine jSub [0, 1] rfl ?_
    exact j_X11_openBracket_15 C hE t_v0 t_v0 h
  · have h := it2 h c1
    refine jB C [(.iconst 1, 1, 1)] 11 [(0, .ref (b + v0)), (1, .int v1)] [.int 1, .ref (b + v0)] (by decide +kernel) rfl rfl ?_
    refine jGoto C 15 (by decide +kernel : decode cX11_openBracket 11 = .ok (.goto 4, 3)) rfl ?_
    refine jSub [0, 1] rfl ?_
    exact j_X11_openBracket_15 C hE t_v0 t_v0 h
theorem ok_X11_openBracket {G : Gm} {v0 : Nat} {v1 : Int32} {S : St} {Q : St → Prop}  (t_v0 : ok G 10 v0) (h : f_X11_openBracket G v0 v1 Q S) : MT yX11_openBracket cX11_openBracket 2 none rm_X11_openBracket 0 0 (fun b => [.ref (b + v0), .int v1]) G S (QV (fun G1 S1 => G1 = G ∧ Q S1)) := MT.ofJ (by decide +kernel) (fun b => [(0, .ref (b + v0)), (1, .int v1)]) (fun b => rfl) (fun b => Nat.le_of_ble_eq_true rfl) (fun l b D cy p e s m below meth c C hE hn => j_X11_openBracket C hE t_v0 h)
theorem hd_X11_openBracket : yX11_openBracket.cls ≠ "java/lang/invoke/MethodHandle" ∧ yX11_openBracket.cls ≠ "java/lang/invoke/VarHandle" ∧ (parseMethodDescriptor yX11_openBracket.desc).map (fun d => d.parameters.length) = some 1 := by decide +kernel
abbrev rm_X11_orderPartAt : Room := { frames := 1, cells := 0, slots := 0, locals := 22 }
set_option maxHeartbeats 4000000 in
set_option maxRecDepth 100000 in
theorem j_X11_orderPartAt_4_n {p : Program} {l : Launch} {e : Env} {s : State} {m : MethodId} {args : Array Value} {below : List Frame} {meth : Method} {c : Code} {b : Nat} {D : va_G} {cy : Nat → ClassId} {G : Gm} {v0 : Nat} {Q : Int32 → St → Prop} (C : CX p s m args meth c b D cy cX11_orderPartAt RX11 3 (some .int)) (hE : s.heap.size + 0 ≤ b + G.2.2) (t_v0 : ok G 10 v0) : ∀ k (v1 : Int32) (v2 : Int32) S, f_X11_orderPartAt_4_n G v0 Q k v1 v2 S → J p l e rm_X11_orderPartAt s m args below meth c b D cy 3 (zI b D cy below args s G Q) 0 0 G S 4 [(0, .ref (b + v0)), (1, .int v1), (2, .int v2)] [] := by
  intro k
  induction k with
  | zero => intro v1 v2 S h; exact h.elim
  | succ k ih =>
    intro v1 v2 S h
    unfold f_X11_orderPartAt_4_n at h
    refine jB C [(.iload_n 2, 1, 0), (.bipush 7, 2, 7)] 7 [(0, .ref (b + v0)), (1, .int v1), (2, .int v2)] [.int 7, .int v2] (by decide +kernel) rfl rfl ?_
    refine jIcmp_ge C 10 37 (by decide +kernel : decode cX11_orderPartAt 7 = .ok (.if_icmp .ge 30, 3)) rfl rfl (fun c1 => ?_) (fun c1 => ?_)
    · have h := it1 h c1
      refine jB C [(.iload_n 1, 1, 0)] 38 [(0, .ref (b + v0)), (1, .int v1), (2, .int v2)] [.int v1] (by decide +kernel) rfl rfl ?_
      exact jRetI C (by decide +kernel : decode cX11_orderPartAt 38 = .ok (.ireturn, 1)) (Nat.le_refl _) (Nat.le_refl _) ⟨rfl, h⟩
    · have h := it2 h c1
      refine jB C [(.aload_n 0, 1, 0), (.aload_n 0, 1, 0)] 12 [(0, .ref (b + v0)), (1, .int v1), (2, .int v2)] [.ref (b + v0), .ref (b + v0)] (by decide +kernel) rfl rfl ?_
      obtain ⟨a2, e_a2, h⟩ := h
      refine jGetR C 15 (by decide +kernel : decode cX11_orderPartAt 12 = .ok (.getfield 90, 3)) rfl t_v0 kX11 33 (by decide) rfl rfl (by decide) wd_1187 e_a2 rfl (fun t_a2 => ?_)
      refine jB C [(.iload_n 2, 1, 0)] 16 [(0, .ref (b + v0)), (1, .int v1), (2, .int v2)] [.int v2, .ref (b + a2), .ref (b + v0)] (by decide +kernel) rfl rfl ?_
      obtain ⟨y3, h⟩ := h
      refine jLald C 17 (by decide +kernel : decode cX11_orderPartAt 16 = .ok (.laload, 1)) rfl t_a2 y3 ?_
      refine jcV_I C 20 (rest := []) (ok_X11_isWord t_v0 h) (by decide +kernel : decode cX11_orderPartAt 17 = .ok (.invokevirtual 328, 3)) rfl wd_1542 wd_1544 wp_123 wd_12 wd_1545 ⟨rfl, rfl⟩ hd_X11_isWord ⟨Nat.le_of_ble_eq_true rfl, Nat.le_of_ble_eq_true rfl⟩ t_v0 kX11 (by decide) rfl rfl rfl (Nat.le_of_ble_eq_true rfl) ⟨Nat.zero_le _, Nat.zero_le _⟩ (fun r5 S4 h => ?_)
      refine jIf_eq C 23 29 (by decide +kernel : decode cX11_orderPartAt 20 = .ok (.ifCond .eq 9, 3)) rfl rfl (fun c6 => ?_) (fun c6 => ?_)
      · have h := it1 h c6
        refine jB C [(.iload_n 1, 1, 0), (.istore_n 1, 1, 0), (.iinc 2 1, 3, 1)] 34 [(2, .int (v2 + 1)), (1, .int v1), (0, .ref (b + v0))] [] (by decide +kernel) rfl rfl ?_
        refine jGoto C 4 (by decide +kernel : decode cX11_orderPartAt 34 = .ok (.goto (-30), 3)) rfl ?_
        refine jSub [2, 1, 0] rfl ?_
        exact ih v1 (v2 + 1) S4 h
      · have h := it2 h c6
        refine jB C [(.iload_n 2, 1, 0), (.iconst 1, 1, 1), (.iadd, 1, 0)] 26 [(0, .ref (b + v0)), (1, .int v1), (2, .int v2)] [.int (v2 + 1)] (by decide +kernel) rfl rfl ?_
        refine jGoto C 30 (by decide +kernel : decode cX11_orderPartAt 26 = .ok (.goto 4, 3)) rfl ?_
        refine jTopI (fun x7 e_x7 => ?_)
        have h := h x7 e_x7
        refine jB C [(.istore_n 1, 1, 0), (.iinc 2 1, 3, 1)] 34 [(2, .int (v2 + 1)), (1, .int x7), (0, .ref (b + v0))] [] (by decide +kernel) rfl rfl ?_
        refine jGoto C 4 (by decide +kernel : decode cX11_orderPartAt 34 = .ok (.goto (-30), 3)) rfl ?_
        refine jSub [2, 1, 0] rfl ?_
        exact ih x7 (v2 + 1) S4 h
theorem j_X11_orderPartAt_4 {p : Program} {l : Launch} {e : Env} {s : State} {m : MethodId} {args : Array Value} {below : List Frame} {meth : Method} {c : Code} {b : Nat} {D : va_G} {cy : Nat → ClassId} {G : Gm} {v0 : Nat} {v1 : Int32} {v2 : Int32} {S : St} {Q : Int32 → St → Prop} (C : CX p s m args meth c b D cy cX11_orderPartAt RX11 3 (some .int)) (hE : s.heap.size + 0 ≤ b + G.2.2) (t_v0 : ok G 10 v0) (h : f_X11_orderPartAt_4 G v0 Q v1 v2 S) : J p l e rm_X11_orderPartAt s m args below meth c b D cy 3 (zI b D cy below args s G Q) 0 0 G S 4 [(0, .ref (b + v0)), (1, .int v1), (2, .int v2)] [] := by
  obtain ⟨k, h⟩ := h
  exact j_X11_orderPartAt_4_n C hE t_v0 k v1 v2 S h
set_option maxHeartbeats 4000000 in
set_option maxRecDepth 100000 in
theorem j_X11_orderPartAt {p : Program} {l : Launch} {e : Env} {s : State} {m : MethodId} {args : Array Value} {below : List Frame} {meth : Method} {c : Code} {b : Nat} {D : va_G} {cy : Nat → ClassId} {G : Gm} {v0 : Nat} {S : St} {Q : Int32 → St → Prop} (C : CX p s m args meth c b D cy cX11_orderPartAt RX11 3 (some .int)) (hE : s.heap.size + 0 ≤ b + G.2.2) (t_v0 : ok G 10 v0) (h : f_X11_orderPartAt G v0 Q S) : J p l e rm_X11_orderPartAt s m args below meth c b D cy 3 (zI b D cy below args s G Q) 0 0 G S 0 [(0, .ref (b + v0))] [] := by
  unfold f_X11_orderPartAt at h
  refine jB C [(.iconst (-1), 1, (-1)), (.istore_n 1, 1, 0), (.iconst 0, 1, 0), (.istore_n 2, 1, 0)] 4 [(2, .int 0), (1, .int (-1)), (0, .ref (b + v0))] [] (by decide +kernel) rfl rfl ?_
  refine jSub [2, 1, 0] rfl ?_
  exact j_X11_orderPartAt_4 C hE t_v0 h
theorem ok_X11_orderPartAt {G : Gm} {v0 : Nat} {S : St} {Q : Int32 → St → Prop}  (t_v0 : ok G 10 v0) (h : f_X11_orderPartAt G v0 Q S) : MT yX11_orderPartAt cX11_orderPartAt 3 (some .int) rm_X11_orderPartAt 0 0 (fun b => [.ref (b + v0)]) G S (QI (fun r G1 S1 => G1 = G ∧ Q r S1)) := MT.ofJ (by decide +kernel) (fun b => [(0, .ref (b + v0))]) (fun b => rfl) (fun b => Nat.le_of_ble_eq_true rfl) (fun l b D cy p e s m below meth c C hE hn => j_X11_orderPartAt C hE t_v0 h)
theorem hd_X11_orderPartAt : yX11_orderPartAt.cls ≠ "java/lang/invoke/MethodHandle" ∧ yX11_orderPartAt.cls ≠ "java/lang/invoke/VarHandle" ∧ (parseMethodDescriptor yX11_orderPartAt.desc).map (fun d => d.parameters.length) = some 0 := by decide +kernel
abbrev rm_X11_partAt : Room := { frames := 1, cells := 0, slots := 0, locals := 22 }
set_option maxHeartbeats 4000000 in
set_option maxRecDepth 100000 in
theorem j_X11_partAt_4_n {p : Program} {l : Launch} {e : Env} {s : State} {m : MethodId} {args : Array Value} {below : List Frame} {meth : Method} {c : Code} {b : Nat} {D : va_G} {cy : Nat → ClassId} {G : Gm} {v0 : Nat} {Q : Int32 → St → Prop} (C : CX p s m args meth c b D cy cX11_partAt RX11 3 (some .int)) (hE : s.heap.size + 0 ≤ b + G.2.2) (t_v0 : ok G 10 v0) : ∀ k (v1 : Int32) (v2 : Int32) S, f_X11_partAt_4_n G v0 Q k v1 v2 S → J p l e rm_X11_partAt s m args below meth c b D cy 3 (zI b D cy below args s G Q) 0 0 G S 4 [(0, .ref (b + v0)), (1, .int v1), (2, .int v2)] [] := by
  intro k
  induction k with
  | zero => intro v1 v2 S h; exact h.elim
  | succ k ih =>
    intro v1 v2 S h
    unfold f_X11_partAt_4_n at h
    refine jB C [(.iload_n 2, 1, 0), (.bipush 9, 2, 9)] 7 [(0, .ref (b + v0)), (1, .int v1), (2, .int v2)] [.int 9, .int v2] (by decide +kernel) rfl rfl ?_
    refine jIcmp_ge C 10 37 (by decide +kernel : decode cX11_partAt 7 = .ok (.if_icmp .ge 30, 3)) rfl rfl (fun c1 => ?_) (fun c1 => ?_)
    · have h := it1 h c1
      refine jB C [(.iload_n 1, 1, 0)] 38 [(0, .ref (b + v0)), (1, .int v1), (2, .int v2)] [.int v1] (by decide +kernel) rfl rfl ?_
      exact jRetI C (by decide +kernel : decode cX11_partAt 38 = .ok (.ireturn, 1)) (Nat.le_refl _) (Nat.le_refl _) ⟨rfl, h⟩
    · have h := it2 h c1
      refine jB C [(.aload_n 0, 1, 0), (.aload_n 0, 1, 0)] 12 [(0, .ref (b + v0)), (1, .int v1), (2, .int v2)] [.ref (b + v0), .ref (b + v0)] (by decide +kernel) rfl rfl ?_
      obtain ⟨a2, e_a2, h⟩ := h
      refine jGetR C 15 (by decide +kernel : decode cX11_partAt 12 = .ok (.getfield 78, 3)) rfl t_v0 kX11 32 (by decide) rfl rfl (by decide) wd_1186 e_a2 rfl (fun t_a2 => ?_)
      refine jB C [(.iload_n 2, 1, 0)] 16 [(0, .ref (b + v0)), (1, .int v1), (2, .int v2)] [.int v2, .ref (b + a2), .ref (b + v0)] (by decide +kernel) rfl rfl ?_
      obtain ⟨y3, h⟩ := h
      refine jLald C 17 (by decide +kernel : decode cX11_partAt 16 = .ok (.laload, 1)) rfl t_a2 y3 ?_
      refine jcV_I C 20 (rest := []) (ok_X11_isWord t_v0 h) (by decide +kernel : decode cX11_partAt 17 = .ok (.invokevirtual 328, 3)) rfl wd_1542 wd_1544 wp_123 wd_12 wd_1545 ⟨rfl, rfl⟩ hd_X11_isWord ⟨Nat.le_of_ble_eq_true rfl, Nat.le_of_ble_eq_true rfl⟩ t_v0 kX11 (by decide) rfl rfl rfl (Nat.le_of_ble_eq_true rfl) ⟨Nat.zero_le _, Nat.zero_le _⟩ (fun r5 S4 h => ?_)
      refine jIf_eq C 23 29 (by decide +kernel : decode cX11_partAt 20 = .ok (.ifCond .eq 9, 3)) rfl rfl (fun c6 => ?_) (fun c6 => ?_)
      · have h := it1 h c6
        refine jB C [(.iload_n 1, 1, 0), (.istore_n 1, 1, 0), (.iinc 2 1, 3, 1)] 34 [(2, .int (v2 + 1)), (1, .int v1), (0, .ref (b + v0))] [] (by decide +kernel) rfl rfl ?_
        refine jGoto C 4 (by decide +kernel : decode cX11_partAt 34 = .ok (.goto (-30), 3)) rfl ?_
        refine jSub [2, 1, 0] rfl ?_
        exact ih v1 (v2 + 1) S4 h
      · have h := it2 h c6
        refine jB C [(.iload_n 2, 1, 0), (.iconst 1, 1, 1), (.iadd, 1, 0)] 26 [(0, .ref (b + v0)), (1, .int v1), (2, .int v2)] [.int (v2 + 1)] (by decide +kernel) rfl rfl ?_
        refine jGoto C 30 (by decide +kernel : decode cX11_partAt 26 = .ok (.goto 4, 3)) rfl ?_
        refine jTopI (fun x7 e_x7 => ?_)
        have h := h x7 e_x7
        refine jB C [(.istore_n 1, 1, 0), (.iinc 2 1, 3, 1)] 34 [(2, .int (v2 + 1)), (1, .int x7), (0, .ref (b + v0))] [] (by decide +kernel) rfl rfl ?_
        refine jGoto C 4 (by decide +kernel : decode cX11_partAt 34 = .ok (.goto (-30), 3)) rfl ?_
        refine jSub [2, 1, 0] rfl ?_
        exact ih x7 (v2 + 1) S4 h
theorem j_X11_partAt_4 {p : Program} {l : Launch} {e : Env} {s : State} {m : MethodId} {args : Array Value} {below : List Frame} {meth : Method} {c : Code} {b : Nat} {D : va_G} {cy : Nat → ClassId} {G : Gm} {v0 : Nat} {v1 : Int32} {v2 : Int32} {S : St} {Q : Int32 → St → Prop} (C : CX p s m args meth c b D cy cX11_partAt RX11 3 (some .int)) (hE : s.heap.size + 0 ≤ b + G.2.2) (t_v0 : ok G 10 v0) (h : f_X11_partAt_4 G v0 Q v1 v2 S) : J p l e rm_X11_partAt s m args below meth c b D cy 3 (zI b D cy below args s G Q) 0 0 G S 4 [(0, .ref (b + v0)), (1, .int v1), (2, .int v2)] [] := by
  obtain ⟨k, h⟩ := h
  exact j_X11_partAt_4_n C hE t_v0 k v1 v2 S h
set_option maxHeartbeats 4000000 in
set_option maxRecDepth 100000 in
theorem j_X11_partAt {p : Program} {l : Launch} {e : Env} {s : State} {m : MethodId} {args : Array Value} {below : List Frame} {meth : Method} {c : Code} {b : Nat} {D : va_G} {cy : Nat → ClassId} {G : Gm} {v0 : Nat} {S : St} {Q : Int32 → St → Prop} (C : CX p s m args meth c b D cy cX11_partAt RX11 3 (some .int)) (hE : s.heap.size + 0 ≤ b + G.2.2) (t_v0 : ok G 10 v0) (h : f_X11_partAt G v0 Q S) : J p l e rm_X11_partAt s m args below meth c b D cy 3 (zI b D cy below args s G Q) 0 0 G S 0 [(0, .ref (b + v0))] [] := by
  unfold f_X11_partAt at h
  refine jB C [(.iconst (-1), 1, (-1)), (.istore_n 1, 1, 0), (.iconst 0, 1, 0), (.istore_n 2, 1, 0)] 4 [(2, .int 0), (1, .int (-1)), (0, .ref (b + v0))] [] (by decide +kernel) rfl rfl ?_
  refine jSub [2, 1, 0] rfl ?_
  exact j_X11_partAt_4 C hE t_v0 h
theorem ok_X11_partAt {G : Gm} {v0 : Nat} {S : St} {Q : Int32 → St → Prop}  (t_v0 : ok G 10 v0) (h : f_X11_partAt G v0 Q S) : MT yX11_partAt cX11_partAt 3 (some .int) rm_X11_partAt 0 0 (fun b => [.ref (b + v0)]) G S (QI (fun r G1 S1 => G1 = G ∧ Q r S1)) := MT.ofJ (by decide +kernel) (fun b => [(0, .ref (b + v0))]) (fun b => rfl) (fun b => Nat.le_of_ble_eq_true rfl) (fun l b D cy p e s m below meth c C hE hn => j_X11_partAt C hE t_v0 h)
theorem hd_X11_partAt : yX11_partAt.cls ≠ "java/lang/invoke/MethodHandle" ∧ yX11_partAt.cls ≠ "java/lang/invoke/VarHandle" ∧ (parseMethodDescriptor yX11_partAt.desc).map (fun d => d.parameters.length) = some 0 := by decide +kernel
abbrev rm_X11_leaf : Room := { frames := 3, cells := 0, slots := 0, locals := 61 }
set_option maxHeartbeats 4000000 in
set_option maxRecDepth 100000 in
theorem j_X11_leaf_19 {p : Program} {l : Launch} {e : Env} {s : State} {m : MethodId} {args : Array Value} {below : List Frame} {meth : Method} {c : Code} {b : Nat} {D : va_G} {cy : Nat → ClassId} {G : Gm} {v0 : Nat} {v2 : Int32} {v3 : Int32} {u0 : Int32} {u1 : Nat} {S : St} {Q : St → Prop} (C : CX p s m args meth c b D cy cX11_leaf RX11 4 none) (hE : s.heap.size + 0 ≤ b + G.2.2) (t_v0 : ok G 10 v0) (t_u1 : ok G 10 u1) (h : f_X11_leaf_19 G v0 v2 v3 u0 u1 Q S) : J p l e rm_X11_leaf s m args below meth c b D cy 4 (zV b D cy below args s G Q) 0 0 G S 19 [(0, .ref (b + v0)), (2, .int v2), (3, .int v3)] [.int u0, .ref (b + u1)] := by
  unfold f_X11_leaf_19 at h
  refine jcV_V C 22 (rest := []) (ok_X11_must t_u1 h) (by decide +kernel : decode cX11_leaf 19 = .ok (.invokevirtual 304, 3)) rfl wd_1546 wd_1548 wp_124 wd_12 wd_1549 ⟨rfl, rfl⟩ hd_X11_must ⟨Nat.le_of_ble_eq_true rfl, Nat.le_of_ble_eq_true rfl⟩ t_u1 kX11 (by decide) rfl rfl rfl (Nat.le_of_ble_eq_true rfl) ⟨Nat.zero_le _, Nat.zero_le _⟩ (fun S1 h => ?_)
  refine jB C [(.aload_n 0, 1, 0)] 23 [(0, .ref (b + v0)), (2, .int v2), (3, .int v3)] [.ref (b + v0)] (by decide +kernel) rfl rfl ?_
  refine jGetI C 26 (by decide +kernel : decode cX11_leaf 23 = .ok (.getfield 271, 3)) rfl t_v0 kX11 20 (by decide) rfl rfl (by decide) wd_1174 ?_
  refine jIf_ne C 29 45 (by decide +kernel : decode cX11_leaf 26 = .ok (.ifCond .ne 19, 3)) rfl rfl (fun c2 => ?_) (fun c2 => ?_)
  · have h := it2 h c2
    exact jRetV C (by decide +kernel : decode cX11_leaf 45 = .ok (.return_, 1)) (Nat.le_refl _) (Nat.le_refl _) ⟨rfl, h⟩
  · have h := it1 h c2
    refine jB C [(.aload_n 0, 1, 0), (.iload_n 2, 1, 0), (.iload_n 3, 1, 0)] 32 [(0, .ref (b + v0)), (2, .int v2), (3, .int v3)] [.int v3, .int v2, .ref (b + v0)] (by decide +kernel) rfl rfl ?_
    refine jcV_V C 35 (rest := []) (ok_X11_emit t_v0 h) (by decide +kernel : decode cX11_leaf 32 = .ok (.invokevirtual 317, 3)) rfl wd_1588 wd_1590 wp_134 wd_12 wd_1591 ⟨rfl, rfl⟩ hd_X11_emit ⟨Nat.le_of_ble_eq_true rfl, Nat.le_of_ble_eq_true rfl⟩ t_v0 kX11 (by decide) rfl rfl rfl (Nat.le_of_ble_eq_true rfl) ⟨Nat.zero_le _, Nat.zero_le _⟩ (fun S3 h => ?_)
    refine jB C [(.aload_n 0, 1, 0), (.dup, 1, 0)] 37 [(0, .ref (b + v0)), (2, .int v2), (3, .int v3)] [.ref (b + v0), .ref (b + v0)] (by decide +kernel) rfl rfl ?_
    refine jGetI C 40 (by decide +kernel : decode cX11_leaf 37 = .ok (.getfield 338, 3)) rfl t_v0 kX11 27 (by decide) rfl rfl (by decide) wd_1181 ?_
    refine jB C [(.iconst 1, 1, 1), (.iadd, 1, 0)] 42 [(0, .ref (b + v0)), (2, .int v2), (3, .int v3)] [.int ((S3.1 v0 27) + 1), .ref (b + v0)] (by decide +kernel) rfl rfl ?_
    refine jPutI C 45 (by decide +kernel : decode cX11_leaf 42 = .ok (.putfield 338, 3)) rfl hE t_v0 kX11 27 (by decide) rfl rfl (by decide) rfl wd_1181 rfl rfl rfl ?_
    refine jTopS (fun S4 e_S4 => ?_)
    have h := h S4 e_S4
    exact jRetV C (by decide +kernel : decode cX11_leaf 45 = .ok (.return_, 1)) (Nat.le_refl _) (Nat.le_refl _) ⟨rfl, h⟩
set_option maxHeartbeats 4000000 in
set_option maxRecDepth 100000 in
theorem j_X11_leaf_18 {p : Program} {l : Launch} {e : Env} {s : State} {m : MethodId} {args : Array Value} {below : List Frame} {meth : Method} {c : Code} {b : Nat} {D : va_G} {cy : Nat → ClassId} {G : Gm} {v0 : Nat} {v2 : Int32} {v3 : Int32} {u0 : Nat} {S : St} {Q : St → Prop} (C : CX p s m args meth c b D cy cX11_leaf RX11 4 none) (hE : s.heap.size + 0 ≤ b + G.2.2) (t_v0 : ok G 10 v0) (t_u0 : ok G 10 u0) (h : f_X11_leaf_18 G v0 v2 v3 u0 Q S) : J p l e rm_X11_leaf s m args below meth c b D cy 4 (zV b D cy below args s G Q) 0 0 G S 18 [(0, .ref (b + v0)), (2, .int v2), (3, .int v3)] [.ref (b + u0)] := by
  unfold f_X11_leaf_18 at h
  refine jB C [(.iconst 0, 1, 0)] 19 [(0, .ref (b + v0)), (2, .int v2), (3, .int v3)] [.int 0, .ref (b + u0)] (by decide +kernel) rfl rfl ?_
  refine jSub [0, 1, 2] rfl ?_
  exact j_X11_leaf_19 C hE t_v0 t_u0 h
set_option maxHeartbeats 4000000 in
set_option maxRecDepth 100000 in
theorem j_X11_leaf {p : Program} {l : Launch} {e : Env} {s : State} {m : MethodId} {args : Array Value} {below : List Frame} {meth : Method} {c : Code} {b : Nat} {D : va_G} {cy : Nat → ClassId} {G : Gm} {v0 : Nat} {v1 : Int32} {v2 : Int32} {v3 : Int32} {S : St} {Q : St → Prop} (C : CX p s m args meth c b D cy cX11_leaf RX11 4 none) (hE : s.heap.size + 0 ≤ b + G.2.2) (t_v0 : ok G 10 v0) (h : f_X11_leaf G v0 v1 v2 v3 Q S) : J p l e rm_X11_leaf s m args below meth c b D cy 4 (zV b D cy below args s G Q) 0 0 G S 0 [(0, .ref (b + v0)), (1, .int v1), (2, .int v2), (3, .int v3)] [] := by
  unfold f_X11_leaf at h
  refine jB C [(.aload_n 0, 1, 0), (.iload_n 1, 1, 0)] 2 [(0, .ref (b + v0)), (1, .int v1), (2, .int v2), (3, .int v3)] [.int v1, .ref (b + v0)] (by decide +kernel) rfl rfl ?_
  refine jIf_eq C 5 18 (by decide +kernel : decode cX11_leaf 2 = .ok (.ifCond .eq 16, 3)) rfl rfl (fun c1 => ?_) (fun c1 => ?_)
  · have h := it1 h c1
    refine jSub [0, 2, 3] rfl ?_
    exact j_X11_leaf_18 C hE t_v0 t_v0 h
  · have h := it2 h c1
    refine jB C [(.aload_n 0, 1, 0)] 6 [(0, .ref (b + v0)), (1, .int v1), (2, .int v2), (3, .int v3)] [.ref (b + v0), .ref (b + v0)] (by decide +kernel) rfl rfl ?_
    refine jGetI C 9 (by decide +kernel : decode cX11_leaf 6 = .ok (.getfield 338, 3)) rfl t_v0 kX11 27 (by decide) rfl rfl (by decide) wd_1181 ?_
    refine jB C [(.bipush 50, 2, 50)] 11 [(0, .ref (b + v0)), (1, .int v1), (2, .int v2), (3, .int v3)] [.int 50, .int (S.1 v0 27), .ref (b + v0)] (by decide +kernel) rfl rfl ?_
    refine jIcmp_ge C 14 18 (by decide +kernel : decode cX11_leaf 11 = .ok (.if_icmp .ge 7, 3)) rfl rfl (fun c2 => ?_) (fun c2 => ?_)
    · have h := it1 h c2
      refine jSub [0, 2, 3] rfl ?_
      exact j_X11_leaf_18 C hE t_v0 t_v0 h
    · have h := it2 h c2
      refine jB C [(.iconst 1, 1, 1)] 15 [(0, .ref (b + v0)), (1, .int v1), (2, .int v2), (3, .int v3)] [.int 1, .ref (b + v0)] (by decide +kernel) rfl rfl ?_
      refine jGoto C 19 (by decide +kernel : decode cX11_leaf 15 = .ok (.goto 4, 3)) rfl ?_
      refine jSub [0, 2, 3] rfl ?_
      exact j_X11_leaf_19 C hE t_v0 t_v0 h
theorem ok_X11_leaf {G : Gm} {v0 : Nat} {v1 : Int32} {v2 : Int32} {v3 : Int32} {S : St} {Q : St → Prop}  (t_v0 : ok G 10 v0) (h : f_X11_leaf G v0 v1 v2 v3 Q S) : MT yX11_leaf cX11_leaf 4 none rm_X11_leaf 0 0 (fun b => [.ref (b + v0), .int v1, .int v2, .int v3]) G S (QV (fun G1 S1 => G1 = G ∧ Q S1)) := MT.ofJ (by decide +kernel) (fun b => [(0, .ref (b + v0)), (1, .int v1), (2, .int v2), (3, .int v3)]) (fun b => rfl) (fun b => Nat.le_of_ble_eq_true rfl) (fun l b D cy p e s m below meth c C hE hn => j_X11_leaf C hE t_v0 h)
theorem hd_X11_leaf : yX11_leaf.cls ≠ "java/lang/invoke/MethodHandle" ∧ yX11_leaf.cls ≠ "java/lang/invoke/VarHandle" ∧ (parseMethodDescriptor yX11_leaf.desc).map (fun d => d.parameters.length) = some 3 := by decide +kernel
abbrev rm_X11_number : Room := { frames := 3, cells := 0, slots := 0, locals := 61 }
set_option maxHeartbeats 4000000 in
set_option maxRecDepth 100000 in
theorem j_X11_number_33 {p : Program} {l : Launch} {e : Env} {s : State} {m : MethodId} {args : Array Value} {below : List Frame} {meth : Method} {c : Code} {b : Nat} {D : va_G} {cy : Nat → ClassId} {G : Gm} {v5 : Int32} {u0 : Int32} {u1 : Nat} {S : St} {Q : Int32 → St → Prop} (C : CX p s m args meth c b D cy cX11_number RX11 6 (some .int)) (hE : s.heap.size + 0 ≤ b + G.2.2) (t_u1 : ok G 10 u1) (h : f_X11_number_33 G v5 u0 u1 Q S) : J p l e rm_X11_number s m args below meth c b D cy 6 (zI b D cy below args s G Q) 0 0 G S 33 [(5, .int v5)] [.int u0, .ref (b + u1)] := by
  unfold f_X11_number_33 at h
  refine jcV_V C 36 (rest := []) (ok_X11_must t_u1 h) (by decide +kernel : decode cX11_number 33 = .ok (.invokevirtual 304, 3)) rfl wd_1546 wd_1548 wp_124 wd_12 wd_1549 ⟨rfl, rfl⟩ hd_X11_must ⟨Nat.le_of_ble_eq_true rfl, Nat.le_of_ble_eq_true rfl⟩ t_u1 kX11 (by decide) rfl rfl rfl (Nat.le_of_ble_eq_true rfl) ⟨Nat.zero_le _, Nat.zero_le _⟩ (fun S1 h => ?_)
  refine jB C [(.iload 5, 2, 0)] 38 [(5, .int v5)] [.int v5] (by decide +kernel) rfl rfl ?_
  exact jRetI C (by decide +kernel : decode cX11_number 38 = .ok (.ireturn, 1)) (Nat.le_refl _) (Nat.le_refl _) ⟨rfl, h⟩
set_option maxHeartbeats 4000000 in
set_option maxRecDepth 100000 in
theorem j_X11_number_32 {p : Program} {l : Launch} {e : Env} {s : State} {m : MethodId} {args : Array Value} {below : List Frame} {meth : Method} {c : Code} {b : Nat} {D : va_G} {cy : Nat → ClassId} {G : Gm} {v5 : Int32} {u0 : Nat} {S : St} {Q : Int32 → St → Prop} (C : CX p s m args meth c b D cy cX11_number RX11 6 (some .int)) (hE : s.heap.size + 0 ≤ b + G.2.2) (t_u0 : ok G 10 u0) (h : f_X11_number_32 G v5 u0 Q S) : J p l e rm_X11_number s m args below meth c b D cy 6 (zI b D cy below args s G Q) 0 0 G S 32 [(5, .int v5)] [.ref (b + u0)] := by
  unfold f_X11_number_32 at h
  refine jB C [(.iconst 0, 1, 0)] 33 [(5, .int v5)] [.int 0, .ref (b + u0)] (by decide +kernel) rfl rfl ?_
  refine jSub [0] rfl ?_
  exact j_X11_number_33 C hE t_u0 h
set_option maxHeartbeats 4000000 in
set_option maxRecDepth 100000 in
theorem j_X11_number {p : Program} {l : Launch} {e : Env} {s : State} {m : MethodId} {args : Array Value} {below : List Frame} {meth : Method} {c : Code} {b : Nat} {D : va_G} {cy : Nat → ClassId} {G : Gm} {v0 : Nat} {v1 : Int64} {v3 : Int64} {S : St} {Q : Int32 → St → Prop} (C : CX p s m args meth c b D cy cX11_number RX11 6 (some .int)) (hE : s.heap.size + 0 ≤ b + G.2.2) (t_v0 : ok G 10 v0) (h : f_X11_number G v0 v1 v3 Q S) : J p l e rm_X11_number s m args below meth c b D cy 6 (zI b D cy below args s G Q) 0 0 G S 0 [(0, .ref (b + v0)), (1, .long v1), (3, .long v3)] [] := by
  unfold f_X11_number at h
  refine jB C [(.aload_n 0, 1, 0)] 1 [(0, .ref (b + v0)), (1, .long v1), (3, .long v3)] [.ref (b + v0)] (by decide +kernel) rfl rfl ?_
  refine jGetJ C 4 (by decide +kernel : decode cX11_number 1 = .ok (.getfield 281, 3)) rfl t_v0 kX11 18 (by decide) rfl rfl (by decide) wd_1172 ?_
  refine jB C [(.l2i, 1, 0)] 5 [(0, .ref (b + v0)), (1, .long v1), (3, .long v3)] [.int ((S.2.1 v0 18).toInt32)] (by decide +kernel) rfl rfl ?_
  refine jTopI (fun x1 e_x1 => ?_)
  have h := h x1 e_x1
  refine jB C [(.istore 5, 2, 0), (.aload_n 0, 1, 0), (.aload_n 0, 1, 0)] 9 [(5, .int x1), (0, .ref (b + v0)), (1, .long v1), (3, .long v3)] [.ref (b + v0), .ref (b + v0)] (by decide +kernel) rfl rfl ?_
  refine jGetI C 12 (by decide +kernel : decode cX11_number 9 = .ok (.getfield 291, 3)) rfl t_v0 kX11 17 (by decide) rfl rfl (by decide) wd_1171 ?_
  refine jB C [(.iconst 2, 1, 2)] 13 [(5, .int x1), (0, .ref (b + v0)), (1, .long v1), (3, .long v3)] [.int 2, .int (S.1 v0 17), .ref (b + v0)] (by decide +kernel) rfl rfl ?_
  refine jIcmp_ne C 16 32 (by decide +kernel : decode cX11_number 13 = .ok (.if_icmp .ne 19, 3)) rfl rfl (fun c2 => ?_) (fun c2 => ?_)
  · have h := it2 h c2
    refine jSub [0] rfl ?_
    exact j_X11_number_32 C hE t_v0 h
  · have h := it1 h c2
    refine jB C [(.aload_n 0, 1, 0)] 17 [(5, .int x1), (0, .ref (b + v0)), (1, .long v1), (3, .long v3)] [.ref (b + v0), .ref (b + v0)] (by decide +kernel) rfl rfl ?_
    refine jGetJ C 20 (by decide +kernel : decode cX11_number 17 = .ok (.getfield 281, 3)) rfl t_v0 kX11 18 (by decide) rfl rfl (by decide) wd_1172 ?_
    refine jB C [(.lload_n 1, 1, 0), (.lload_n 3, 1, 0)] 22 [(5, .int x1), (0, .ref (b + v0)), (1, .long v1), (3, .long v3)] [.long v3, .long v1, .long (S.2.1 v0 18), .ref (b + v0)] (by decide +kernel) rfl rfl ?_
    refine jcS_I C 25 (rest := [.ref (b + v0)]) (ok_X11_in h) (by decide +kernel : decode cX11_number 22 = .ok (.invokestatic 185, 3)) rfl wd_1352 wd_1353 wd_12 wd_1354 ⟨rfl, rfl⟩ hd_X11_in ⟨Nat.le_of_ble_eq_true rfl, Nat.le_of_ble_eq_true rfl⟩ rfl rfl (Nat.le_of_ble_eq_true rfl) ⟨Nat.zero_le _, Nat.zero_le _⟩ (fun r4 S3 h => ?_)
    refine jIf_eq C 28 32 (by decide +kernel : decode cX11_number 25 = .ok (.ifCond .eq 7, 3)) rfl rfl (fun c5 => ?_) (fun c5 => ?_)
    · have h := it1 h c5
      refine jSub [0] rfl ?_
      exact j_X11_number_32 C hE t_v0 h
    · have h := it2 h c5
      refine jB C [(.iconst 1, 1, 1)] 29 [(5, .int x1), (0, .ref (b + v0)), (1, .long v1), (3, .long v3)] [.int 1, .ref (b + v0)] (by decide +kernel) rfl rfl ?_
      refine jGoto C 33 (by decide +kernel : decode cX11_number 29 = .ok (.goto 4, 3)) rfl ?_
      refine jSub [0] rfl ?_
      exact j_X11_number_33 C hE t_v0 h
theorem ok_X11_number {G : Gm} {v0 : Nat} {v1 : Int64} {v3 : Int64} {S : St} {Q : Int32 → St → Prop}  (t_v0 : ok G 10 v0) (h : f_X11_number G v0 v1 v3 Q S) : MT yX11_number cX11_number 6 (some .int) rm_X11_number 0 0 (fun b => [.ref (b + v0), .long v1, .long v3]) G S (QI (fun r G1 S1 => G1 = G ∧ Q r S1)) := MT.ofJ (by decide +kernel) (fun b => [(0, .ref (b + v0)), (1, .long v1), (3, .long v3)]) (fun b => rfl) (fun b => Nat.le_of_ble_eq_true rfl) (fun l b D cy p e s m below meth c C hE hn => j_X11_number C hE t_v0 h)
theorem hd_X11_number : yX11_number.cls ≠ "java/lang/invoke/MethodHandle" ∧ yX11_number.cls ≠ "java/lang/invoke/VarHandle" ∧ (parseMethodDescriptor yX11_number.desc).map (fun d => d.parameters.length) = some 2 := by decide +kernel
abbrev rm_X11_readPart : Room := { frames := 4, cells := 0, slots := 0, locals := 86 }
set_option maxHeartbeats 4000000 in
set_option maxRecDepth 100000 in
theorem j_X11_readPart_99 {p : Program} {l : Launch} {e : Env} {s : State} {m : MethodId} {args : Array Value} {below : List Frame} {meth : Method} {c : Code} {b : Nat} {D : va_G} {cy : Nat → ClassId} {G : Gm} {v0 : Nat} {v1 : Int32} {u0 : Int32} {u1 : Int32} {u2 : Int32} {u3 : Nat} {S : St} {Q : Int32 → St → Prop} (C : CX p s m args meth c b D cy cX11_readPart RX11 4 (some .int)) (hE : s.heap.size + 0 ≤ b + G.2.2) (t_v0 : ok G 10 v0) (t_u3 : ok G 10 u3) (h : f_X11_readPart_99 G v0 v1 u0 u1 u2 u3 Q S) : J p l e rm_X11_readPart s m args below meth c b D cy 4 (zI b D cy below args s G Q) 0 0 G S 99 [(0, .ref (b + v0)), (1, .int v1)] [.int u0, .int u1, .int u2, .ref (b + u3)] := by
  unfold f_X11_readPart_99 at h
  refine jcV_V C 102 (rest := []) (ok_X11_leaf t_u3 h) (by decide +kernel : decode cX11_readPart 99 = .ok (.invokevirtual 359, 3)) rfl wd_1584 wd_1586 wp_133 wd_12 wd_1587 ⟨rfl, rfl⟩ hd_X11_leaf ⟨Nat.le_of_ble_eq_true rfl, Nat.le_of_ble_eq_true rfl⟩ t_u3 kX11 (by decide) rfl rfl rfl (Nat.le_of_ble_eq_true rfl) ⟨Nat.zero_le _, Nat.zero_le _⟩ (fun S1 h => ?_)
  refine jB C [(.aload_n 0, 1, 0)] 103 [(0, .ref (b + v0)), (1, .int v1)] [.ref (b + v0)] (by decide +kernel) rfl rfl ?_
  refine jGetI C 106 (by decide +kernel : decode cX11_readPart 103 = .ok (.getfield 347, 3)) rfl t_v0 kX11 21 (by decide) rfl rfl (by decide) wd_1175 ?_
  refine jIf_eq C 109 142 (by decide +kernel : decode cX11_readPart 106 = .ok (.ifCond .eq 36, 3)) rfl rfl (fun c2 => ?_) (fun c2 => ?_)
  · have h := it1 h c2
    refine jB C [(.iconst 3, 1, 3)] 143 [(0, .ref (b + v0)), (1, .int v1)] [.int 3] (by decide +kernel) rfl rfl ?_
    exact jRetI C (by decide +kernel : decode cX11_readPart 143 = .ok (.ireturn, 1)) (Nat.le_refl _) (Nat.le_refl _) ⟨rfl, h⟩
  · have h := it2 h c2
    refine jB C [(.iload_n 1, 1, 0), (.iconst 5, 1, 5)] 111 [(0, .ref (b + v0)), (1, .int v1)] [.int 5, .int v1] (by decide +kernel) rfl rfl ?_
    refine jIcmp_lt C 114 142 (by decide +kernel : decode cX11_readPart 111 = .ok (.if_icmp .lt 31, 3)) rfl rfl (fun c3 => ?_) (fun c3 => ?_)
    · have h := it1 h c3
      refine jB C [(.iconst 3, 1, 3)] 143 [(0, .ref (b + v0)), (1, .int v1)] [.int 3] (by decide +kernel) rfl rfl ?_
      exact jRetI C (by decide +kernel : decode cX11_readPart 143 = .ok (.ireturn, 1)) (Nat.le_refl _) (Nat.le_refl _) ⟨rfl, h⟩
    · have h := it2 h c3
      refine jB C [(.aload_n 0, 1, 0)] 115 [(0, .ref (b + v0)), (1, .int v1)] [.ref (b + v0)] (by decide +kernel) rfl rfl ?_
      refine jGetI C 118 (by decide +kernel : decode cX11_readPart 115 = .ok (.getfield 271, 3)) rfl t_v0 kX11 20 (by decide) rfl rfl (by decide) wd_1174 ?_
      refine jIf_ne C 121 142 (by decide +kernel : decode cX11_readPart 118 = .ok (.ifCond .ne 24, 3)) rfl rfl (fun c4 => ?_) (fun c4 => ?_)
      · have h := it2 h c4
        refine jB C [(.iconst 3, 1, 3)] 143 [(0, .ref (b + v0)), (1, .int v1)] [.int 3] (by decide +kernel) rfl rfl ?_
        exact jRetI C (by decide +kernel : decode cX11_readPart 143 = .ok (.ireturn, 1)) (Nat.le_refl _) (Nat.le_refl _) ⟨rfl, h⟩
      · have h := it1 h c4
        refine jB C [(.aload_n 0, 1, 0)] 122 [(0, .ref (b + v0)), (1, .int v1)] [.ref (b + v0)] (by decide +kernel) rfl rfl ?_
        refine jGetI C 125 (by decide +kernel : decode cX11_readPart 122 = .ok (.getfield 308, 3)) rfl t_v0 kX11 24 (by decide) rfl rfl (by decide) wd_1178 ?_
        refine jB C [(.iconst 1, 1, 1), (.isub, 1, 0)] 127 [(0, .ref (b + v0)), (1, .int v1)] [.int ((S1.1 v0 24) - 1)] (by decide +kernel) rfl rfl ?_
        refine jTopI (fun x5 e_x5 => ?_)
        have h := h x5 e_x5
        refine jB C [(.istore_n 3, 1, 0), (.aload_n 0, 1, 0)] 129 [(3, .int x5), (0, .ref (b + v0)), (1, .int v1)] [.ref (b + v0)] (by decide +kernel) rfl rfl ?_
        obtain ⟨a6, e_a6, h⟩ := h
        refine jGetR C 132 (by decide +kernel : decode cX11_readPart 129 = .ok (.getfield 51, 3)) rfl t_v0 kX11 26 (by decide) rfl rfl (by decide) wd_1180 e_a6 rfl (fun t_a6 => ?_)
        refine jB C [(.iload_n 3, 1, 0), (.aload_n 0, 1, 0), (.lconst 0, 1, 0)] 135 [(3, .int x5), (0, .ref (b + v0)), (1, .int v1)] [.long 0, .ref (b + v0), .int x5, .ref (b + a6)] (by decide +kernel) rfl rfl ?_
        refine jLdc2 C 138 (by decide +kernel : decode cX11_readPart 135 = .ok (.ldc2_w 213, 3)) rfl wd_1381 ?_
        refine jcV_I C 141 (rest := [.int x5, .ref (b + a6)]) (ok_X11_number t_v0 h) (by decide +kernel : decode cX11_readPart 138 = .ok (.invokevirtual 363, 3)) rfl wd_1592 wd_1594 wp_135 wd_12 wd_1595 ⟨rfl, rfl⟩ hd_X11_number ⟨Nat.le_of_ble_eq_true rfl, Nat.le_of_ble_eq_true rfl⟩ t_v0 kX11 (by decide) rfl rfl rfl (Nat.le_of_ble_eq_true rfl) ⟨Nat.zero_le _, Nat.zero_le _⟩ (fun r8 S7 h => ?_)
        obtain ⟨y9, h⟩ := h
        refine jIast C 142 (by decide +kernel : decode cX11_readPart 141 = .ok (.iastore, 1)) rfl hE t_a6 y9 ?_
        refine jTopS (fun S10 e_S10 => ?_)
        have h := h S10 e_S10
        refine jB C [(.iconst 3, 1, 3)] 143 [(3, .int x5), (0, .ref (b + v0)), (1, .int v1)] [.int 3] (by decide +kernel) rfl rfl ?_
        exact jRetI C (by decide +kernel : decode cX11_readPart 143 = .ok (.ireturn, 1)) (Nat.le_refl _) (Nat.le_refl _) ⟨rfl, h⟩
set_option maxHeartbeats 4000000 in
set_option maxRecDepth 100000 in
theorem j_X11_readPart_86 {p : Program} {l : Launch} {e : Env} {s : State} {m : MethodId} {args : Array Value} {below : List Frame} {meth : Method} {c : Code} {b : Nat} {D : va_G} {cy : Nat → ClassId} {G : Gm} {v0 : Nat} {v1 : Int32} {v2 : Int32} {u0 : Int32} {u1 : Int32} {u2 : Nat} {S : St} {Q : Int32 → St → Prop} (C : CX p s m args meth c b D cy cX11_readPart RX11 4 (some .int)) (hE : s.heap.size + 0 ≤ b + G.2.2) (t_v0 : ok G 10 v0) (t_u2 : ok G 10 u2) (h : f_X11_readPart_86 G v0 v1 v2 u0 u1 u2 Q S) : J p l e rm_X11_readPart s m args below meth c b D cy 4 (zI b D cy below args s G Q) 0 0 G S 86 [(0, .ref (b + v0)), (1, .int v1), (2, .int v2)] [.int u0, .int u1, .ref (b + u2)] := by
  unfold f_X11_readPart_86 at h
  refine jB C [(.iload_n 2, 1, 0)] 87 [(0, .ref (b + v0)), (1, .int v1), (2, .int v2)] [.int v2, .int u0, .int u1, .ref (b + u2)] (by decide +kernel) rfl rfl ?_
  refine jIf_eq C 90 98 (by decide +kernel : decode cX11_readPart 87 = .ok (.ifCond .eq 11, 3)) rfl rfl (fun c1 => ?_) (fun c1 => ?_)
  · have h := it1 h c1
    refine jB C [(.iconst 0, 1, 0)] 99 [(0, .ref (b + v0)), (1, .int v1), (2, .int v2)] [.int 0, .int u0, .int u1, .ref (b + u2)] (by decide +kernel) rfl rfl ?_
    refine jSub [0, 1] rfl ?_
    exact j_X11_readPart_99 C hE t_v0 t_u2 h
  · have h := it2 h c1
    refine jB C [(.aload_n 0, 1, 0)] 91 [(0, .ref (b + v0)), (1, .int v1), (2, .int v2)] [.ref (b + v0), .int u0, .int u1, .ref (b + u2)] (by decide +kernel) rfl rfl ?_
    refine jGetJ C 94 (by decide +kernel : decode cX11_readPart 91 = .ok (.getfield 281, 3)) rfl t_v0 kX11 18 (by decide) rfl rfl (by decide) wd_1172 ?_
    refine jB C [(.l2i, 1, 0)] 95 [(0, .ref (b + v0)), (1, .int v1), (2, .int v2)] [.int ((S.2.1 v0 18).toInt32), .int u0, .int u1, .ref (b + u2)] (by decide +kernel) rfl rfl ?_
    refine jGoto C 99 (by decide +kernel : decode cX11_readPart 95 = .ok (.goto 4, 3)) rfl ?_
    refine jSub [0, 1] rfl ?_
    exact j_X11_readPart_99 C hE t_v0 t_u2 h
set_option maxHeartbeats 4000000 in
set_option maxRecDepth 100000 in
theorem j_X11_readPart_76 {p : Program} {l : Launch} {e : Env} {s : State} {m : MethodId} {args : Array Value} {below : List Frame} {meth : Method} {c : Code} {b : Nat} {D : va_G} {cy : Nat → ClassId} {G : Gm} {v0 : Nat} {v1 : Int32} {v2 : Int32} {u0 : Int32} {u1 : Nat} {S : St} {Q : Int32 → St → Prop} (C : CX p s m args meth c b D cy cX11_readPart RX11 4 (some .int)) (hE : s.heap.size + 0 ≤ b + G.2.2) (t_v0 : ok G 10 v0) (t_u1 : ok G 10 u1) (h : f_X11_readPart_76 G v0 v1 v2 u0 u1 Q S) : J p l e rm_X11_readPart s m args below meth c b D cy 4 (zI b D cy below args s G Q) 0 0 G S 76 [(0, .ref (b + v0)), (1, .int v1), (2, .int v2)] [.int u0, .ref (b + u1)] := by
  unfold f_X11_readPart_76 at h
  refine jB C [(.iload_n 1, 1, 0), (.iconst (-1), 1, (-1))] 78 [(0, .ref (b + v0)), (1, .int v1), (2, .int v2)] [.int (-1), .int v1, .int u0, .ref (b + u1)] (by decide +kernel) rfl rfl ?_
  refine jIcmp_ne C 81 85 (by decide +kernel : decode cX11_readPart 78 = .ok (.if_icmp .ne 7, 3)) rfl rfl (fun c1 => ?_) (fun c1 => ?_)
  · have h := it2 h c1
    refine jB C [(.iload_n 1, 1, 0)] 86 [(0, .ref (b + v0)), (1, .int v1), (2, .int v2)] [.int v1, .int u0, .ref (b + u1)] (by decide +kernel) rfl rfl ?_
    refine jSub [0, 1, 2] rfl ?_
    exact j_X11_readPart_86 C hE t_v0 t_u1 h
  · have h := it1 h c1
    refine jB C [(.iconst 0, 1, 0)] 82 [(0, .ref (b + v0)), (1, .int v1), (2, .int v2)] [.int 0, .int u0, .ref (b + u1)] (by decide +kernel) rfl rfl ?_
    refine jGoto C 86 (by decide +kernel : decode cX11_readPart 82 = .ok (.goto 4, 3)) rfl ?_
    refine jSub [0, 1, 2] rfl ?_
    exact j_X11_readPart_86 C hE t_v0 t_u1 h
set_option maxHeartbeats 4000000 in
set_option maxRecDepth 100000 in
theorem j_X11_readPart_71 {p : Program} {l : Launch} {e : Env} {s : State} {m : MethodId} {args : Array Value} {below : List Frame} {meth : Method} {c : Code} {b : Nat} {D : va_G} {cy : Nat → ClassId} {G : Gm} {v0 : Nat} {v1 : Int32} {v2 : Int32} {u0 : Nat} {S : St} {Q : Int32 → St → Prop} (C : CX p s m args meth c b D cy cX11_readPart RX11 4 (some .int)) (hE : s.heap.size + 0 ≤ b + G.2.2) (t_v0 : ok G 10 v0) (t_u0 : ok G 10 u0) (h : f_X11_readPart_71 G v0 v1 v2 u0 Q S) : J p l e rm_X11_readPart s m args below meth c b D cy 4 (zI b D cy below args s G Q) 0 0 G S 71 [(0, .ref (b + v0)), (1, .int v1), (2, .int v2)] [.ref (b + u0)] := by
  unfold f_X11_readPart_71 at h
  refine jB C [(.iconst 1, 1, 1)] 72 [(0, .ref (b + v0)), (1, .int v1), (2, .int v2)] [.int 1, .ref (b + u0)] (by decide +kernel) rfl rfl ?_
  refine jGoto C 76 (by decide +kernel : decode cX11_readPart 72 = .ok (.goto 4, 3)) rfl ?_
  refine jSub [0, 1, 2] rfl ?_
  exact j_X11_readPart_76 C hE t_v0 t_u0 h
set_option maxHeartbeats 4000000 in
set_option maxRecDepth 100000 in
theorem j_X11_readPart_60 {p : Program} {l : Launch} {e : Env} {s : State} {m : MethodId} {args : Array Value} {below : List Frame} {meth : Method} {c : Code} {b : Nat} {D : va_G} {cy : Nat → ClassId} {G : Gm} {v0 : Nat} {v1 : Int32} {u0 : Int32} {S : St} {Q : Int32 → St → Prop} (C : CX p s m args meth c b D cy cX11_readPart RX11 4 (some .int)) (hE : s.heap.size + 0 ≤ b + G.2.2) (t_v0 : ok G 10 v0) (h : f_X11_readPart_60 G v0 v1 u0 Q S) : J p l e rm_X11_readPart s m args below meth c b D cy 4 (zI b D cy below args s G Q) 0 0 G S 60 [(0, .ref (b + v0)), (1, .int v1)] [.int u0] := by
  unfold f_X11_readPart_60 at h
  refine jB C [(.istore_n 2, 1, 0), (.aload_n 0, 1, 0), (.iload_n 1, 1, 0), (.iconst (-1), 1, (-1))] 64 [(2, .int u0), (0, .ref (b + v0)), (1, .int v1)] [.int (-1), .int v1, .ref (b + v0)] (by decide +kernel) rfl rfl ?_
  refine jIcmp_ne C 67 71 (by decide +kernel : decode cX11_readPart 64 = .ok (.if_icmp .ne 7, 3)) rfl rfl (fun c1 => ?_) (fun c1 => ?_)
  · have h := it2 h c1
    refine jSub [1, 2, 0] rfl ?_
    exact j_X11_readPart_71 C hE t_v0 t_v0 h
  · have h := it1 h c1
    refine jB C [(.iload_n 2, 1, 0)] 68 [(2, .int u0), (0, .ref (b + v0)), (1, .int v1)] [.int u0, .ref (b + v0)] (by decide +kernel) rfl rfl ?_
    refine jIf_eq C 71 75 (by decide +kernel : decode cX11_readPart 68 = .ok (.ifCond .eq 7, 3)) rfl rfl (fun c2 => ?_) (fun c2 => ?_)
    · have h := it1 h c2
      refine jB C [(.iconst 0, 1, 0)] 76 [(2, .int u0), (0, .ref (b + v0)), (1, .int v1)] [.int 0, .ref (b + v0)] (by decide +kernel) rfl rfl ?_
      refine jSub [1, 2, 0] rfl ?_
      exact j_X11_readPart_76 C hE t_v0 t_v0 h
    · have h := it2 h c2
      refine jSub [1, 2, 0] rfl ?_
      exact j_X11_readPart_71 C hE t_v0 t_v0 h
set_option maxHeartbeats 4000000 in
set_option maxRecDepth 100000 in
theorem j_X11_readPart_59 {p : Program} {l : Launch} {e : Env} {s : State} {m : MethodId} {args : Array Value} {below : List Frame} {meth : Method} {c : Code} {b : Nat} {D : va_G} {cy : Nat → ClassId} {G : Gm} {v0 : Nat} {v1 : Int32} {S : St} {Q : Int32 → St → Prop} (C : CX p s m args meth c b D cy cX11_readPart RX11 4 (some .int)) (hE : s.heap.size + 0 ≤ b + G.2.2) (t_v0 : ok G 10 v0) (h : f_X11_readPart_59 G v0 v1 Q S) : J p l e rm_X11_readPart s m args below meth c b D cy 4 (zI b D cy below args s G Q) 0 0 G S 59 [(0, .ref (b + v0)), (1, .int v1)] [] := by
  unfold f_X11_readPart_59 at h
  refine jB C [(.iconst 0, 1, 0)] 60 [(0, .ref (b + v0)), (1, .int v1)] [.int 0] (by decide +kernel) rfl rfl ?_
  refine jSub [0, 1] rfl ?_
  exact j_X11_readPart_60 C hE t_v0 h
set_option maxHeartbeats 4000000 in
set_option maxRecDepth 100000 in
theorem j_X11_readPart_35 {p : Program} {l : Launch} {e : Env} {s : State} {m : MethodId} {args : Array Value} {below : List Frame} {meth : Method} {c : Code} {b : Nat} {D : va_G} {cy : Nat → ClassId} {G : Gm} {v0 : Nat} {u0 : Int32} {S : St} {Q : Int32 → St → Prop} (C : CX p s m args meth c b D cy cX11_readPart RX11 4 (some .int)) (hE : s.heap.size + 0 ≤ b + G.2.2) (t_v0 : ok G 10 v0) (h : f_X11_readPart_35 G v0 u0 Q S) : J p l e rm_X11_readPart s m args below meth c b D cy 4 (zI b D cy below args s G Q) 0 0 G S 35 [(0, .ref (b + v0))] [.int u0] := by
  unfold f_X11_readPart_35 at h
  refine jB C [(.istore_n 1, 1, 0), (.aload_n 0, 1, 0)] 37 [(1, .int u0), (0, .ref (b + v0))] [.ref (b + v0)] (by decide +kernel) rfl rfl ?_
  refine jGetI C 40 (by decide +kernel : decode cX11_readPart 37 = .ok (.getfield 291, 3)) rfl t_v0 kX11 17 (by decide) rfl rfl (by decide) wd_1171 ?_
  refine jB C [(.iconst 2, 1, 2)] 41 [(1, .int u0), (0, .ref (b + v0))] [.int 2, .int (S.1 v0 17)] (by decide +kernel) rfl rfl ?_
  refine jIcmp_ne C 44 59 (by decide +kernel : decode cX11_readPart 41 = .ok (.if_icmp .ne 18, 3)) rfl rfl (fun c1 => ?_) (fun c1 => ?_)
  · have h := it2 h c1
    refine jSub [1, 0] rfl ?_
    exact j_X11_readPart_59 C hE t_v0 h
  · have h := it1 h c1
    refine jB C [(.aload_n 0, 1, 0)] 45 [(1, .int u0), (0, .ref (b + v0))] [.ref (b + v0)] (by decide +kernel) rfl rfl ?_
    refine jGetJ C 48 (by decide +kernel : decode cX11_readPart 45 = .ok (.getfield 281, 3)) rfl t_v0 kX11 18 (by decide) rfl rfl (by decide) wd_1172 ?_
    refine jLdc2 C 51 (by decide +kernel : decode cX11_readPart 48 = .ok (.ldc2_w 357, 3)) rfl wd_1583 ?_
    refine jB C [(.lcmp, 1, 0)] 52 [(1, .int u0), (0, .ref (b + v0))] [.int (lg_cmp (S.2.1 v0 18) 1000)] (by decide +kernel) rfl rfl ?_
    refine jIf_gt C 55 59 (by decide +kernel : decode cX11_readPart 52 = .ok (.ifCond .gt 7, 3)) rfl rfl (fun c2 => ?_) (fun c2 => ?_)
    · have h := it1 h c2
      refine jSub [1, 0] rfl ?_
      exact j_X11_readPart_59 C hE t_v0 h
    · have h := it2 h c2
      refine jB C [(.iconst 1, 1, 1)] 56 [(1, .int u0), (0, .ref (b + v0))] [.int 1] (by decide +kernel) rfl rfl ?_
      refine jGoto C 60 (by decide +kernel : decode cX11_readPart 56 = .ok (.goto 4, 3)) rfl ?_
      refine jSub [1, 0] rfl ?_
      exact j_X11_readPart_60 C hE t_v0 h
set_option maxHeartbeats 4000000 in
set_option maxRecDepth 100000 in
theorem j_X11_readPart {p : Program} {l : Launch} {e : Env} {s : State} {m : MethodId} {args : Array Value} {below : List Frame} {meth : Method} {c : Code} {b : Nat} {D : va_G} {cy : Nat → ClassId} {G : Gm} {v0 : Nat} {S : St} {Q : Int32 → St → Prop} (C : CX p s m args meth c b D cy cX11_readPart RX11 4 (some .int)) (hE : s.heap.size + 0 ≤ b + G.2.2) (t_v0 : ok G 10 v0) (h : f_X11_readPart G v0 Q S) : J p l e rm_X11_readPart s m args below meth c b D cy 4 (zI b D cy below args s G Q) 0 0 G S 0 [(0, .ref (b + v0))] [] := by
  unfold f_X11_readPart at h
  refine jB C [(.aload_n 0, 1, 0), (.bipush 91, 2, 91)] 3 [(0, .ref (b + v0))] [.int 91, .ref (b + v0)] (by decide +kernel) rfl rfl ?_
  refine jcV_I C 6 (rest := []) (ok_X11_isSign t_v0 h) (by decide +kernel : decode cX11_readPart 3 = .ok (.invokevirtual 341, 3)) rfl wd_1563 wd_1565 wp_128 wd_12 wd_1566 ⟨rfl, rfl⟩ hd_X11_isSign ⟨Nat.le_of_ble_eq_true rfl, Nat.le_of_ble_eq_true rfl⟩ t_v0 kX11 (by decide) rfl rfl rfl (Nat.le_of_ble_eq_true rfl) ⟨Nat.zero_le _, Nat.zero_le _⟩ (fun r2 S1 h => ?_)
  refine jIf_eq C 9 17 (by decide +kernel : decode cX11_readPart 6 = .ok (.ifCond .eq 11, 3)) rfl rfl (fun c3 => ?_) (fun c3 => ?_)
  · have h := it1 h c3
    refine jB C [(.aload_n 0, 1, 0)] 18 [(0, .ref (b + v0))] [.ref (b + v0)] (by decide +kernel) rfl rfl ?_
    refine jGetI C 21 (by decide +kernel : decode cX11_readPart 18 = .ok (.getfield 347, 3)) rfl t_v0 kX11 21 (by decide) rfl rfl (by decide) wd_1175 ?_
    refine jIf_eq C 24 31 (by decide +kernel : decode cX11_readPart 21 = .ok (.ifCond .eq 10, 3)) rfl rfl (fun c4 => ?_) (fun c4 => ?_)
    · have h := it1 h c4
      refine jB C [(.aload_n 0, 1, 0)] 32 [(0, .ref (b + v0))] [.ref (b + v0)] (by decide +kernel) rfl rfl ?_
      refine jcV_I C 35 (rest := []) (ok_X11_partAt t_v0 h) (by decide +kernel : decode cX11_readPart 32 = .ok (.invokevirtual 354, 3)) rfl wd_1579 wd_1581 wp_132 wd_12 wd_1582 ⟨rfl, rfl⟩ hd_X11_partAt ⟨Nat.le_of_ble_eq_true rfl, Nat.le_of_ble_eq_true rfl⟩ t_v0 kX11 (by decide) rfl rfl rfl (Nat.le_of_ble_eq_true rfl) ⟨Nat.zero_le _, Nat.zero_le _⟩ (fun r6 S5 h => ?_)
      refine jSub [0] rfl ?_
      exact j_X11_readPart_35 C hE t_v0 h
    · have h := it2 h c4
      refine jB C [(.aload_n 0, 1, 0)] 25 [(0, .ref (b + v0))] [.ref (b + v0)] (by decide +kernel) rfl rfl ?_
      refine jcV_I C 28 (rest := []) (ok_X11_orderPartAt t_v0 h) (by decide +kernel : decode cX11_readPart 25 = .ok (.invokevirtual 350, 3)) rfl wd_1575 wd_1577 wp_131 wd_12 wd_1578 ⟨rfl, rfl⟩ hd_X11_orderPartAt ⟨Nat.le_of_ble_eq_true rfl, Nat.le_of_ble_eq_true rfl⟩ t_v0 kX11 (by decide) rfl rfl rfl (Nat.le_of_ble_eq_true rfl) ⟨Nat.zero_le _, Nat.zero_le _⟩ (fun r8 S7 h => ?_)
      refine jGoto C 35 (by decide +kernel : decode cX11_readPart 28 = .ok (.goto 7, 3)) rfl ?_
      refine jSub [0] rfl ?_
      exact j_X11_readPart_35 C hE t_v0 h
  · have h := it2 h c3
    refine jB C [(.aload_n 0, 1, 0), (.bipush 32, 2, 32)] 12 [(0, .ref (b + v0))] [.int 32, .ref (b + v0)] (by decide +kernel) rfl rfl ?_
    refine jcV_V C 15 (rest := []) (ok_X11_openBracket t_v0 h) (by decide +kernel : decode cX11_readPart 12 = .ok (.invokevirtual 344, 3)) rfl wd_1567 wd_1569 wp_129 wd_12 wd_1570 ⟨rfl, rfl⟩ hd_X11_openBracket ⟨Nat.le_of_ble_eq_true rfl, Nat.le_of_ble_eq_true rfl⟩ t_v0 kX11 (by decide) rfl rfl rfl (Nat.le_of_ble_eq_true rfl) ⟨Nat.zero_le _, Nat.zero_le _⟩ (fun S9 h => ?_)
    refine jB C [(.iconst 1, 1, 1)] 16 [(0, .ref (b + v0))] [.int 1] (by decide +kernel) rfl rfl ?_
    exact jRetI C (by decide +kernel : decode cX11_readPart 16 = .ok (.ireturn, 1)) (Nat.le_refl _) (Nat.le_refl _) ⟨rfl, h⟩
theorem ok_X11_readPart {G : Gm} {v0 : Nat} {S : St} {Q : Int32 → St → Prop}  (t_v0 : ok G 10 v0) (h : f_X11_readPart G v0 Q S) : MT yX11_readPart cX11_readPart 4 (some .int) rm_X11_readPart 0 0 (fun b => [.ref (b + v0)]) G S (QI (fun r G1 S1 => G1 = G ∧ Q r S1)) := MT.ofJ (by decide +kernel) (fun b => [(0, .ref (b + v0))]) (fun b => rfl) (fun b => Nat.le_of_ble_eq_true rfl) (fun l b D cy p e s m below meth c C hE hn => j_X11_readPart C hE t_v0 h)
theorem hd_X11_readPart : yX11_readPart.cls ≠ "java/lang/invoke/MethodHandle" ∧ yX11_readPart.cls ≠ "java/lang/invoke/VarHandle" ∧ (parseMethodDescriptor yX11_readPart.desc).map (fun d => d.parameters.length) = some 0 := by decide +kernel
abbrev rm_X11_readPlain : Room := { frames := 5, cells := 0, slots := 0, locals := 109 }
set_option maxHeartbeats 4000000 in
set_option maxRecDepth 100000 in
theorem j_X11_readPlain {p : Program} {l : Launch} {e : Env} {s : State} {m : MethodId} {args : Array Value} {below : List Frame} {meth : Method} {c : Code} {b : Nat} {D : va_G} {cy : Nat → ClassId} {G : Gm} {v0 : Nat} {S : St} {Q : Int32 → St → Prop} (C : CX p s m args meth c b D cy cX11_readPlain RX11 1 (some .int)) (hE : s.heap.size + 0 ≤ b + G.2.2) (t_v0 : ok G 10 v0) (h : f_X11_readPlain G v0 Q S) : J p l e rm_X11_readPlain s m args below meth c b D cy 1 (zI b D cy below args s G Q) 0 0 G S 0 [(0, .ref (b + v0))] [] := by
  unfold f_X11_readPlain at h
  refine jB C [(.aload_n 0, 1, 0)] 1 [(0, .ref (b + v0))] [.ref (b + v0)] (by decide +kernel) rfl rfl ?_
  refine jLdc2 C 4 (by decide +kernel : decode cX11_readPlain 1 = .ok (.ldc2_w 367, 3)) rfl wd_1558 ?_
  refine jcV_I C 7 (rest := []) (ok_X11_isWord t_v0 h) (by decide +kernel : decode cX11_readPlain 4 = .ok (.invokevirtual 328, 3)) rfl wd_1542 wd_1544 wp_123 wd_12 wd_1545 ⟨rfl, rfl⟩ hd_X11_isWord ⟨Nat.le_of_ble_eq_true rfl, Nat.le_of_ble_eq_true rfl⟩ t_v0 kX11 (by decide) rfl rfl rfl (Nat.le_of_ble_eq_true rfl) ⟨Nat.zero_le _, Nat.zero_le _⟩ (fun r2 S1 h => ?_)
  refine jIf_eq C 10 23 (by decide +kernel : decode cX11_readPlain 7 = .ok (.ifCond .eq 16, 3)) rfl rfl (fun c3 => ?_) (fun c3 => ?_)
  · have h := it1 h c3
    refine jB C [(.aload_n 0, 1, 0), (.bipush 40, 2, 40)] 26 [(0, .ref (b + v0))] [.int 40, .ref (b + v0)] (by decide +kernel) rfl rfl ?_
    refine jcV_I C 29 (rest := []) (ok_X11_isSign t_v0 h) (by decide +kernel : decode cX11_readPlain 26 = .ok (.invokevirtual 341, 3)) rfl wd_1563 wd_1565 wp_128 wd_12 wd_1566 ⟨rfl, rfl⟩ hd_X11_isSign ⟨Nat.le_of_ble_eq_true rfl, Nat.le_of_ble_eq_true rfl⟩ t_v0 kX11 (by decide) rfl rfl rfl (Nat.le_of_ble_eq_true rfl) ⟨Nat.zero_le _, Nat.zero_le _⟩ (fun r5 S4 h => ?_)
    refine jIf_eq C 32 40 (by decide +kernel : decode cX11_readPlain 29 = .ok (.ifCond .eq 11, 3)) rfl rfl (fun c6 => ?_) (fun c6 => ?_)
    · have h := it1 h c6
      refine jB C [(.aload_n 0, 1, 0)] 41 [(0, .ref (b + v0))] [.ref (b + v0)] (by decide +kernel) rfl rfl ?_
      refine jcV_I C 44 (rest := []) (ok_X11_readPart t_v0 h) (by decide +kernel : decode cX11_readPlain 41 = .ok (.invokevirtual 369, 3)) rfl wd_1571 wd_1573 wp_130 wd_12 wd_1574 ⟨rfl, rfl⟩ hd_X11_readPart ⟨Nat.le_of_ble_eq_true rfl, Nat.le_of_ble_eq_true rfl⟩ t_v0 kX11 (by decide) rfl rfl rfl (Nat.le_of_ble_eq_true rfl) ⟨Nat.zero_le _, Nat.zero_le _⟩ (fun r8 S7 h => ?_)
      exact jRetI C (by decide +kernel : decode cX11_readPlain 44 = .ok (.ireturn, 1)) (Nat.le_refl _) (Nat.le_refl _) ⟨rfl, h⟩
    · have h := it2 h c6
      refine jB C [(.aload_n 0, 1, 0), (.bipush 31, 2, 31)] 35 [(0, .ref (b + v0))] [.int 31, .ref (b + v0)] (by decide +kernel) rfl rfl ?_
      refine jcV_V C 38 (rest := []) (ok_X11_openBracket t_v0 h) (by decide +kernel : decode cX11_readPlain 35 = .ok (.invokevirtual 344, 3)) rfl wd_1567 wd_1569 wp_129 wd_12 wd_1570 ⟨rfl, rfl⟩ hd_X11_openBracket ⟨Nat.le_of_ble_eq_true rfl, Nat.le_of_ble_eq_true rfl⟩ t_v0 kX11 (by decide) rfl rfl rfl (Nat.le_of_ble_eq_true rfl) ⟨Nat.zero_le _, Nat.zero_le _⟩ (fun S9 h => ?_)
      refine jB C [(.iconst 0, 1, 0)] 39 [(0, .ref (b + v0))] [.int 0] (by decide +kernel) rfl rfl ?_
      exact jRetI C (by decide +kernel : decode cX11_readPlain 39 = .ok (.ireturn, 1)) (Nat.le_refl _) (Nat.le_refl _) ⟨rfl, h⟩
  · have h := it2 h c3
    refine jB C [(.aload_n 0, 1, 0), (.bipush 28, 2, 28), (.iconst 0, 1, 0)] 14 [(0, .ref (b + v0))] [.int 0, .int 28, .ref (b + v0)] (by decide +kernel) rfl rfl ?_
    refine jcV_V C 17 (rest := []) (ok_X11_push t_v0 h) (by decide +kernel : decode cX11_readPlain 14 = .ok (.invokevirtual 335, 3)) rfl wd_1559 wd_1561 wp_127 wd_12 wd_1562 ⟨rfl, rfl⟩ hd_X11_push ⟨Nat.le_of_ble_eq_true rfl, Nat.le_of_ble_eq_true rfl⟩ t_v0 kX11 (by decide) rfl rfl rfl (Nat.le_of_ble_eq_true rfl) ⟨Nat.zero_le _, Nat.zero_le _⟩ (fun S10 h => ?_)
    refine jB C [(.aload_n 0, 1, 0)] 18 [(0, .ref (b + v0))] [.ref (b + v0)] (by decide +kernel) rfl rfl ?_
    refine jcV_V C 21 (rest := []) (ok_X11_next t_v0 h) (by decide +kernel : decode cX11_readPlain 18 = .ok (.invokevirtual 275, 3)) rfl wd_1524 wd_1526 wp_121 wd_12 wd_1527 ⟨rfl, rfl⟩ hd_X11_next ⟨Nat.le_of_ble_eq_true rfl, Nat.le_of_ble_eq_true rfl⟩ t_v0 kX11 (by decide) rfl rfl rfl (Nat.le_of_ble_eq_true rfl) ⟨Nat.zero_le _, Nat.zero_le _⟩ (fun S11 h => ?_)
    refine jB C [(.iconst 0, 1, 0)] 22 [(0, .ref (b + v0))] [.int 0] (by decide +kernel) rfl rfl ?_
    exact jRetI C (by decide +kernel : decode cX11_readPlain 22 = .ok (.ireturn, 1)) (Nat.le_refl _) (Nat.le_refl _) ⟨rfl, h⟩
theorem ok_X11_readPlain {G : Gm} {v0 : Nat} {S : St} {Q : Int32 → St → Prop}  (t_v0 : ok G 10 v0) (h : f_X11_readPlain G v0 Q S) : MT yX11_readPlain cX11_readPlain 1 (some .int) rm_X11_readPlain 0 0 (fun b => [.ref (b + v0)]) G S (QI (fun r G1 S1 => G1 = G ∧ Q r S1)) := MT.ofJ (by decide +kernel) (fun b => [(0, .ref (b + v0))]) (fun b => rfl) (fun b => Nat.le_of_ble_eq_true rfl) (fun l b D cy p e s m below meth c C hE hn => j_X11_readPlain C hE t_v0 h)
theorem hd_X11_readPlain : yX11_readPlain.cls ≠ "java/lang/invoke/MethodHandle" ∧ yX11_readPlain.cls ≠ "java/lang/invoke/VarHandle" ∧ (parseMethodDescriptor yX11_readPlain.desc).map (fun d => d.parameters.length) = some 0 := by decide +kernel
abbrev rm_X11_readExpression : Room := { frames := 6, cells := 0, slots := 0, locals := 129 }
set_option maxHeartbeats 4000000 in
set_option maxRecDepth 100000 in
theorem j_X11_readExpression_76 {p : Program} {l : Launch} {e : Env} {s : State} {m : MethodId} {args : Array Value} {below : List Frame} {meth : Method} {c : Code} {b : Nat} {D : va_G} {cy : Nat → ClassId} {G : Gm} {v0 : Nat} {S : St} {Q : St → Prop} (C : CX p s m args meth c b D cy cX11_readExpression RX11 3 none) (hE : s.heap.size + 0 ≤ b + G.2.2) (t_v0 : ok G 10 v0) (h : f_X11_readExpression_76 G v0 Q S) : J p l e rm_X11_readExpression s m args below meth c b D cy 3 (zV b D cy below args s G Q) 0 0 G S 76 [(0, .ref (b + v0))] [] := by
  unfold f_X11_readExpression_76 at h
  refine jB C [(.aload_n 0, 1, 0), (.iconst 1, 1, 1)] 78 [(0, .ref (b + v0))] [.int 1, .ref (b + v0)] (by decide +kernel) rfl rfl ?_
  refine jcV_V C 81 (rest := []) (ok_X11_settle t_v0 h) (by decide +kernel : decode cX11_readExpression 78 = .ok (.invokevirtual 372, 3)) rfl wd_1603 wd_1605 wp_137 wd_12 wd_1606 ⟨rfl, rfl⟩ hd_X11_settle ⟨Nat.le_of_ble_eq_true rfl, Nat.le_of_ble_eq_true rfl⟩ t_v0 kX11 (by decide) rfl rfl rfl (Nat.le_of_ble_eq_true rfl) ⟨Nat.zero_le _, Nat.zero_le _⟩ (fun S1 h => ?_)
  exact jRetV C (by decide +kernel : decode cX11_readExpression 81 = .ok (.return_, 1)) (Nat.le_refl _) (Nat.le_refl _) ⟨rfl, h⟩
set_option maxHeartbeats 4000000 in
set_option maxRecDepth 100000 in
theorem j_X11_readExpression_20_n {p : Program} {l : Launch} {e : Env} {s : State} {m : MethodId} {args : Array Value} {below : List Frame} {meth : Method} {c : Code} {b : Nat} {D : va_G} {cy : Nat → ClassId} {G : Gm} {v0 : Nat} {v1 : Int32} {Q : St → Prop} (C : CX p s m args meth c b D cy cX11_readExpression RX11 3 none) (hE : s.heap.size + 0 ≤ b + G.2.2) (t_v0 : ok G 10 v0) : ∀ k (v2 : Int32) S, f_X11_readExpression_20_n G v0 v1 Q k v2 S → J p l e rm_X11_readExpression s m args below meth c b D cy 3 (zV b D cy below args s G Q) 0 0 G S 20 [(0, .ref (b + v0)), (1, .int v1), (2, .int v2)] [] := by
  intro k
  induction k with
  | zero => intro v2 S h; exact h.elim
  | succ k ih =>
    intro v2 S h
    unfold f_X11_readExpression_20_n at h
    refine jB C [(.aload_n 0, 1, 0)] 21 [(0, .ref (b + v0)), (1, .int v1), (2, .int v2)] [.ref (b + v0)] (by decide +kernel) rfl rfl ?_
    refine jGetI C 24 (by decide +kernel : decode cX11_readExpression 21 = .ok (.getfield 271, 3)) rfl t_v0 kX11 20 (by decide) rfl rfl (by decide) wd_1174 ?_
    refine jIf_ne C 27 76 (by decide +kernel : decode cX11_readExpression 24 = .ok (.ifCond .ne 52, 3)) rfl rfl (fun c1 => ?_) (fun c1 => ?_)
    · have h := it2 h c1
      refine jSub [0] rfl ?_
      exact j_X11_readExpression_76 C hE t_v0 h
    · have h := it1 h c1
      refine jB C [(.iload_n 2, 1, 0), (.iconst 4, 1, 4)] 29 [(0, .ref (b + v0)), (1, .int v1), (2, .int v2)] [.int 4, .int v2] (by decide +kernel) rfl rfl ?_
      refine jIcmp_eq C 32 76 (by decide +kernel : decode cX11_readExpression 29 = .ok (.if_icmp .eq 47, 3)) rfl rfl (fun c2 => ?_) (fun c2 => ?_)
      · have h := it1 h c2
        refine jSub [0] rfl ?_
        exact j_X11_readExpression_76 C hE t_v0 h
      · have h := it2 h c2
        refine jB C [(.iload_n 2, 1, 0)] 33 [(0, .ref (b + v0)), (1, .int v1), (2, .int v2)] [.int v2] (by decide +kernel) rfl rfl ?_
        refine jIf_ne C 36 43 (by decide +kernel : decode cX11_readExpression 33 = .ok (.ifCond .ne 10, 3)) rfl rfl (fun c3 => ?_) (fun c3 => ?_)
        · have h := it2 h c3
          refine jB C [(.iload_n 2, 1, 0), (.iconst 1, 1, 1)] 45 [(0, .ref (b + v0)), (1, .int v1), (2, .int v2)] [.int 1, .int v2] (by decide +kernel) rfl rfl ?_
          refine jIcmp_ne C 48 55 (by decide +kernel : decode cX11_readExpression 45 = .ok (.if_icmp .ne 10, 3)) rfl rfl (fun c4 => ?_) (fun c4 => ?_)
          · have h := it2 h c4
            refine jB C [(.iload_n 2, 1, 0), (.iconst 3, 1, 3)] 57 [(0, .ref (b + v0)), (1, .int v1), (2, .int v2)] [.int 3, .int v2] (by decide +kernel) rfl rfl ?_
            refine jIcmp_ne C 60 68 (by decide +kernel : decode cX11_readExpression 57 = .ok (.if_icmp .ne 11, 3)) rfl rfl (fun c5 => ?_) (fun c5 => ?_)
            · have h := it2 h c5
              refine jB C [(.aload_n 0, 1, 0)] 69 [(0, .ref (b + v0)), (1, .int v1), (2, .int v2)] [.ref (b + v0)] (by decide +kernel) rfl rfl ?_
              refine jcV_I C 72 (rest := []) (ok_X11_behindTest t_v0 h) (by decide +kernel : decode cX11_readExpression 69 = .ok (.invokevirtual 393, 3)) rfl wd_1619 wd_1621 wp_140 wd_12 wd_1622 ⟨rfl, rfl⟩ hd_X11_behindTest ⟨Nat.le_of_ble_eq_true rfl, Nat.le_of_ble_eq_true rfl⟩ t_v0 kX11 (by decide) rfl rfl rfl (Nat.le_of_ble_eq_true rfl) ⟨Nat.zero_le _, Nat.zero_le _⟩ (fun r7 S6 h => ?_)
              refine jB C [(.istore_n 2, 1, 0)] 73 [(2, .int r7), (0, .ref (b + v0)), (1, .int v1)] [] (by decide +kernel) rfl rfl ?_
              refine jGoto C 20 (by decide +kernel : decode cX11_readExpression 73 = .ok (.goto (-53), 3)) rfl ?_
              refine jSub [1, 2, 0] rfl ?_
              exact ih r7 S6 h
            · have h := it1 h c5
              refine jB C [(.aload_n 0, 1, 0), (.iload_n 1, 1, 0)] 62 [(0, .ref (b + v0)), (1, .int v1), (2, .int v2)] [.int v1, .ref (b + v0)] (by decide +kernel) rfl rfl ?_
              refine jcV_I C 65 (rest := []) (ok_X11_behindSum t_v0 h) (by decide +kernel : decode cX11_readExpression 62 = .ok (.invokevirtual 389, 3)) rfl wd_1596 wd_1598 wp_136 wd_12 wd_1599 ⟨rfl, rfl⟩ hd_X11_behindSum ⟨Nat.le_of_ble_eq_true rfl, Nat.le_of_ble_eq_true rfl⟩ t_v0 kX11 (by decide) rfl rfl rfl (Nat.le_of_ble_eq_true rfl) ⟨Nat.zero_le _, Nat.zero_le _⟩ (fun r9 S8 h => ?_)
              refine jGoto C 72 (by decide +kernel : decode cX11_readExpression 65 = .ok (.goto 7, 3)) rfl ?_
              refine jB C [(.istore_n 2, 1, 0)] 73 [(2, .int r9), (0, .ref (b + v0)), (1, .int v1)] [] (by decide +kernel) rfl rfl ?_
              refine jGoto C 20 (by decide +kernel : decode cX11_readExpression 73 = .ok (.goto (-53), 3)) rfl ?_
              refine jSub [1, 2, 0] rfl ?_
              exact ih r9 S8 h
          · have h := it1 h c4
            refine jB C [(.aload_n 0, 1, 0)] 49 [(0, .ref (b + v0)), (1, .int v1), (2, .int v2)] [.ref (b + v0)] (by decide +kernel) rfl rfl ?_
            refine jcV_I C 52 (rest := []) (ok_X11_readPart t_v0 h) (by decide +kernel : decode cX11_readExpression 49 = .ok (.invokevirtual 369, 3)) rfl wd_1571 wd_1573 wp_130 wd_12 wd_1574 ⟨rfl, rfl⟩ hd_X11_readPart ⟨Nat.le_of_ble_eq_true rfl, Nat.le_of_ble_eq_true rfl⟩ t_v0 kX11 (by decide) rfl rfl rfl (Nat.le_of_ble_eq_true rfl) ⟨Nat.zero_le _, Nat.zero_le _⟩ (fun r11 S10 h => ?_)
            refine jGoto C 72 (by decide +kernel : decode cX11_readExpression 52 = .ok (.goto 20, 3)) rfl ?_
            refine jB C [(.istore_n 2, 1, 0)] 73 [(2, .int r11), (0, .ref (b + v0)), (1, .int v1)] [] (by decide +kernel) rfl rfl ?_
            refine jGoto C 20 (by decide +kernel : decode cX11_readExpression 73 = .ok (.goto (-53), 3)) rfl ?_
            refine jSub [1, 2, 0] rfl ?_
            exact ih r11 S10 h
        · have h := it1 h c3
          refine jB C [(.aload_n 0, 1, 0)] 37 [(0, .ref (b + v0)), (1, .int v1), (2, .int v2)] [.ref (b + v0)] (by decide +kernel) rfl rfl ?_
          refine jcV_I C 40 (rest := []) (ok_X11_readPlain t_v0 h) (by decide +kernel : decode cX11_readExpression 37 = .ok (.invokevirtual 386, 3)) rfl wd_1554 wd_1556 wp_126 wd_12 wd_1557 ⟨rfl, rfl⟩ hd_X11_readPlain ⟨Nat.le_of_ble_eq_true rfl, Nat.le_of_ble_eq_true rfl⟩ t_v0 kX11 (by decide) rfl rfl rfl (Nat.le_of_ble_eq_true rfl) ⟨Nat.zero_le _, Nat.zero_le _⟩ (fun r13 S12 h => ?_)
          refine jGoto C 72 (by decide +kernel : decode cX11_readExpression 40 = .ok (.goto 32, 3)) rfl ?_
          refine jB C [(.istore_n 2, 1, 0)] 73 [(2, .int r13), (0, .ref (b + v0)), (1, .int v1)] [] (by decide +kernel) rfl rfl ?_
          refine jGoto C 20 (by decide +kernel : decode cX11_readExpression 73 = .ok (.goto (-53), 3)) rfl ?_
          refine jSub [1, 2, 0] rfl ?_
          exact ih r13 S12 h
theorem j_X11_readExpression_20 {p : Program} {l : Launch} {e : Env} {s : State} {m : MethodId} {args : Array Value} {below : List Frame} {meth : Method} {c : Code} {b : Nat} {D : va_G} {cy : Nat → ClassId} {G : Gm} {v0 : Nat} {v1 : Int32} {v2 : Int32} {S : St} {Q : St → Prop} (C : CX p s m args meth c b D cy cX11_readExpression RX11 3 none) (hE : s.heap.size + 0 ≤ b + G.2.2) (t_v0 : ok G 10 v0) (h : f_X11_readExpression_20 G v0 v1 Q v2 S) : J p l e rm_X11_readExpression s m args below meth c b D cy 3 (zV b D cy below args s G Q) 0 0 G S 20 [(0, .ref (b + v0)), (1, .int v1), (2, .int v2)] [] := by
  obtain ⟨k, h⟩ := h
  exact j_X11_readExpression_20_n C hE t_v0 k v2 S h
set_option maxHeartbeats 4000000 in
set_option maxRecDepth 100000 in
theorem j_X11_readExpression {p : Program} {l : Launch} {e : Env} {s : State} {m : MethodId} {args : Array Value} {below : List Frame} {meth : Method} {c : Code} {b : Nat} {D : va_G} {cy : Nat → ClassId} {G : Gm} {v0 : Nat} {v1 : Int32} {S : St} {Q : St → Prop} (C : CX p s m args meth c b D cy cX11_readExpression RX11 3 none) (hE : s.heap.size + 0 ≤ b + G.2.2) (t_v0 : ok G 10 v0) (h : f_X11_readExpression G v0 v1 Q S) : J p l e rm_X11_readExpression s m args below meth c b D cy 3 (zV b D cy below args s G Q) 0 0 G S 0 [(0, .ref (b + v0)), (1, .int v1)] [] := by
  unfold f_X11_readExpression at h
  refine jB C [(.aload_n 0, 1, 0), (.iconst 0, 1, 0)] 2 [(0, .ref (b + v0)), (1, .int v1)] [.int 0, .ref (b + v0)] (by decide +kernel) rfl rfl ?_
  refine jPutI C 5 (by decide +kernel : decode cX11_readExpression 2 = .ok (.putfield 311, 3)) rfl hE t_v0 kX11 30 (by decide) rfl rfl (by decide) rfl wd_1184 rfl rfl rfl ?_
  refine jTopS (fun S1 e_S1 => ?_)
  have h := h S1 e_S1
  refine jB C [(.aload_n 0, 1, 0), (.iconst 0, 1, 0)] 7 [(0, .ref (b + v0)), (1, .int v1)] [.int 0, .ref (b + v0)] (by decide +kernel) rfl rfl ?_
  refine jPutI C 10 (by decide +kernel : decode cX11_readExpression 7 = .ok (.putfield 332, 3)) rfl hE t_v0 kX11 31 (by decide) rfl rfl (by decide) rfl wd_1185 rfl rfl rfl ?_
  refine jTopS (fun S2 e_S2 => ?_)
  have h := h S2 e_S2
  refine jB C [(.iload_n 1, 1, 0)] 11 [(0, .ref (b + v0)), (1, .int v1)] [.int v1] (by decide +kernel) rfl rfl ?_
  refine jIf_eq C 14 18 (by decide +kernel : decode cX11_readExpression 11 = .ok (.ifCond .eq 7, 3)) rfl rfl (fun c3 => ?_) (fun c3 => ?_)
  · have h := it1 h c3
    refine jB C [(.iconst 1, 1, 1), (.istore_n 2, 1, 0)] 20 [(2, .int 1), (0, .ref (b + v0)), (1, .int v1)] [] (by decide +kernel) rfl rfl ?_
    refine jSub [1, 2, 0] rfl ?_
    exact j_X11_readExpression_20 C hE t_v0 h
  · have h := it2 h c3
    refine jB C [(.iconst 0, 1, 0)] 15 [(0, .ref (b + v0)), (1, .int v1)] [.int 0] (by decide +kernel) rfl rfl ?_
    refine jGoto C 19 (by decide +kernel : decode cX11_readExpression 15 = .ok (.goto 4, 3)) rfl ?_
    refine jB C [(.istore_n 2, 1, 0)] 20 [(2, .int 0), (0, .ref (b + v0)), (1, .int v1)] [] (by decide +kernel) rfl rfl ?_
    refine jSub [1, 2, 0] rfl ?_
    exact j_X11_readExpression_20 C hE t_v0 h
theorem ok_X11_readExpression {G : Gm} {v0 : Nat} {v1 : Int32} {S : St} {Q : St → Prop}  (t_v0 : ok G 10 v0) (h : f_X11_readExpression G v0 v1 Q S) : MT yX11_readExpression cX11_readExpression 3 none rm_X11_readExpression 0 0 (fun b => [.ref (b + v0), .int v1]) G S (QV (fun G1 S1 => G1 = G ∧ Q S1)) := MT.ofJ (by decide +kernel) (fun b => [(0, .ref (b + v0)), (1, .int v1)]) (fun b => rfl) (fun b => Nat.le_of_ble_eq_true rfl) (fun l b D cy p e s m below meth c C hE hn => j_X11_readExpression C hE t_v0 h)
theorem hd_X11_readExpression : yX11_readExpression.cls ≠ "java/lang/invoke/MethodHandle" ∧ yX11_readExpression.cls ≠ "java/lang/invoke/VarHandle" ∧ (parseMethodDescriptor yX11_readExpression.desc).map (fun d => d.parameters.length) = some 1 := by decide +kernel
abbrev rm_X11_readLaw : Room := { frames := 7, cells := 0, slots := 0, locals := 151 }
set_option maxHeartbeats 4000000 in
set_option maxRecDepth 100000 in
theorem j_X11_readLaw_185 {p : Program} {l : Launch} {e : Env} {s : State} {m : MethodId} {args : Array Value} {below : List Frame} {meth : Method} {c : Code} {b : Nat} {D : va_G} {cy : Nat → ClassId} {G : Gm} {v0 : Nat} {v2 : Int32} {S : St} {Q : St → Prop} (C : CX p s m args meth c b D cy cX11_readLaw RX11 4 none) (hE : s.heap.size + 0 ≤ b + G.2.2) (t_v0 : ok G 10 v0) (h : f_X11_readLaw_185 G v0 v2 Q S) : J p l e rm_X11_readLaw s m args below meth c b D cy 4 (zV b D cy below args s G Q) 0 0 G S 185 [(0, .ref (b + v0)), (2, .int v2)] [] := by
  unfold f_X11_readLaw_185 at h
  refine jB C [(.aload_n 0, 1, 0)] 186 [(0, .ref (b + v0)), (2, .int v2)] [.ref (b + v0)] (by decide +kernel) rfl rfl ?_
  obtain ⟨a1, e_a1, h⟩ := h
  refine jGetR C 189 (by decide +kernel : decode cX11_readLaw 186 = .ok (.getfield 45, 3)) rfl t_v0 kX11 23 (by decide) rfl rfl (by decide) wd_1177 e_a1 rfl (fun t_a1 => ?_)
  refine jB C [(.iload_n 2, 1, 0), (.bipush 6, 2, 6), (.iadd, 1, 0), (.aload_n 0, 1, 0)] 194 [(0, .ref (b + v0)), (2, .int v2)] [.ref (b + v0), .int (v2 + 6), .ref (b + a1)] (by decide +kernel) rfl rfl ?_
  refine jGetI C 197 (by decide +kernel : decode cX11_readLaw 194 = .ok (.getfield 308, 3)) rfl t_v0 kX11 24 (by decide) rfl rfl (by decide) wd_1178 ?_
  obtain ⟨y2, h⟩ := h
  refine jIast C 198 (by decide +kernel : decode cX11_readLaw 197 = .ok (.iastore, 1)) rfl hE t_a1 y2 ?_
  refine jTopS (fun S3 e_S3 => ?_)
  have h := h S3 e_S3
  exact jRetV C (by decide +kernel : decode cX11_readLaw 198 = .ok (.return_, 1)) (Nat.le_refl _) (Nat.le_refl _) ⟨rfl, h⟩
set_option maxHeartbeats 4000000 in
set_option maxRecDepth 100000 in
theorem j_X11_readLaw_135 {p : Program} {l : Launch} {e : Env} {s : State} {m : MethodId} {args : Array Value} {below : List Frame} {meth : Method} {c : Code} {b : Nat} {D : va_G} {cy : Nat → ClassId} {G : Gm} {v0 : Nat} {v2 : Int32} {S : St} {Q : St → Prop} (C : CX p s m args meth c b D cy cX11_readLaw RX11 4 none) (hE : s.heap.size + 0 ≤ b + G.2.2) (t_v0 : ok G 10 v0) (h : f_X11_readLaw_135 G v0 v2 Q S) : J p l e rm_X11_readLaw s m args below meth c b D cy 4 (zV b D cy below args s G Q) 0 0 G S 135 [(0, .ref (b + v0)), (2, .int v2)] [] := by
  unfold f_X11_readLaw_135 at h
  refine jB C [(.aload_n 0, 1, 0)] 136 [(0, .ref (b + v0)), (2, .int v2)] [.ref (b + v0)] (by decide +kernel) rfl rfl ?_
  obtain ⟨a1, e_a1, h⟩ := h
  refine jGetR C 139 (by decide +kernel : decode cX11_readLaw 136 = .ok (.getfield 45, 3)) rfl t_v0 kX11 23 (by decide) rfl rfl (by decide) wd_1177 e_a1 rfl (fun t_a1 => ?_)
  refine jB C [(.iload_n 2, 1, 0), (.iconst 4, 1, 4), (.iadd, 1, 0), (.aload_n 0, 1, 0)] 143 [(0, .ref (b + v0)), (2, .int v2)] [.ref (b + v0), .int (v2 + 4), .ref (b + a1)] (by decide +kernel) rfl rfl ?_
  refine jGetI C 146 (by decide +kernel : decode cX11_readLaw 143 = .ok (.getfield 308, 3)) rfl t_v0 kX11 24 (by decide) rfl rfl (by decide) wd_1178 ?_
  obtain ⟨y2, h⟩ := h
  refine jIast C 147 (by decide +kernel : decode cX11_readLaw 146 = .ok (.iastore, 1)) rfl hE t_a1 y2 ?_
  refine jTopS (fun S3 e_S3 => ?_)
  have h := h S3 e_S3
  refine jB C [(.aload_n 0, 1, 0)] 148 [(0, .ref (b + v0)), (2, .int v2)] [.ref (b + v0)] (by decide +kernel) rfl rfl ?_
  obtain ⟨a4, e_a4, h⟩ := h
  refine jGetR C 151 (by decide +kernel : decode cX11_readLaw 148 = .ok (.getfield 45, 3)) rfl t_v0 kX11 23 (by decide) rfl rfl (by decide) wd_1177 e_a4 rfl (fun t_a4 => ?_)
  refine jB C [(.iload_n 2, 1, 0), (.iconst 5, 1, 5), (.iadd, 1, 0), (.aload_n 0, 1, 0)] 155 [(0, .ref (b + v0)), (2, .int v2)] [.ref (b + v0), .int (v2 + 5), .ref (b + a4)] (by decide +kernel) rfl rfl ?_
  refine jGetI C 158 (by decide +kernel : decode cX11_readLaw 155 = .ok (.getfield 308, 3)) rfl t_v0 kX11 24 (by decide) rfl rfl (by decide) wd_1178 ?_
  obtain ⟨y5, h⟩ := h
  refine jIast C 159 (by decide +kernel : decode cX11_readLaw 158 = .ok (.iastore, 1)) rfl hE t_a4 y5 ?_
  refine jTopS (fun S6 e_S6 => ?_)
  have h := h S6 e_S6
  refine jB C [(.aload_n 0, 1, 0)] 160 [(0, .ref (b + v0)), (2, .int v2)] [.ref (b + v0)] (by decide +kernel) rfl rfl ?_
  refine jGetI C 163 (by decide +kernel : decode cX11_readLaw 160 = .ok (.getfield 271, 3)) rfl t_v0 kX11 20 (by decide) rfl rfl (by decide) wd_1174 ?_
  refine jIf_ne C 166 185 (by decide +kernel : decode cX11_readLaw 163 = .ok (.ifCond .ne 22, 3)) rfl rfl (fun c7 => ?_) (fun c7 => ?_)
  · have h := it2 h c7
    refine jSub [0, 1] rfl ?_
    exact j_X11_readLaw_185 C hE t_v0 h
  · have h := it1 h c7
    refine jB C [(.aload_n 0, 1, 0)] 167 [(0, .ref (b + v0)), (2, .int v2)] [.ref (b + v0)] (by decide +kernel) rfl rfl ?_
    refine jLdc2 C 170 (by decide +kernel : decode cX11_readLaw 167 = .ok (.ldc2_w 405, 3)) rfl wd_1625 ?_
    refine jcV_I C 173 (rest := []) (ok_X11_isWord t_v0 h) (by decide +kernel : decode cX11_readLaw 170 = .ok (.invokevirtual 328, 3)) rfl wd_1542 wd_1544 wp_123 wd_12 wd_1545 ⟨rfl, rfl⟩ hd_X11_isWord ⟨Nat.le_of_ble_eq_true rfl, Nat.le_of_ble_eq_true rfl⟩ t_v0 kX11 (by decide) rfl rfl rfl (Nat.le_of_ble_eq_true rfl) ⟨Nat.zero_le _, Nat.zero_le _⟩ (fun r9 S8 h => ?_)
    refine jIf_eq C 176 185 (by decide +kernel : decode cX11_readLaw 173 = .ok (.ifCond .eq 12, 3)) rfl rfl (fun c10 => ?_) (fun c10 => ?_)
    · have h := it1 h c10
      refine jSub [0, 1] rfl ?_
      exact j_X11_readLaw_185 C hE t_v0 h
    · have h := it2 h c10
      refine jB C [(.aload_n 0, 1, 0)] 177 [(0, .ref (b + v0)), (2, .int v2)] [.ref (b + v0)] (by decide +kernel) rfl rfl ?_
      refine jcV_V C 180 (rest := []) (ok_X11_next t_v0 h) (by decide +kernel : decode cX11_readLaw 177 = .ok (.invokevirtual 275, 3)) rfl wd_1524 wd_1526 wp_121 wd_12 wd_1527 ⟨rfl, rfl⟩ hd_X11_next ⟨Nat.le_of_ble_eq_true rfl, Nat.le_of_ble_eq_true rfl⟩ t_v0 kX11 (by decide) rfl rfl rfl (Nat.le_of_ble_eq_true rfl) ⟨Nat.zero_le _, Nat.zero_le _⟩ (fun S11 h => ?_)
      refine jB C [(.aload_n 0, 1, 0), (.iconst 1, 1, 1)] 182 [(0, .ref (b + v0)), (2, .int v2)] [.int 1, .ref (b + v0)] (by decide +kernel) rfl rfl ?_
      refine jcV_V C 185 (rest := []) (ok_X11_readExpression t_v0 h) (by decide +kernel : decode cX11_readLaw 182 = .ok (.invokevirtual 402, 3)) rfl wd_1550 wd_1552 wp_125 wd_12 wd_1553 ⟨rfl, rfl⟩ hd_X11_readExpression ⟨Nat.le_of_ble_eq_true rfl, Nat.le_of_ble_eq_true rfl⟩ t_v0 kX11 (by decide) rfl rfl rfl (Nat.le_of_ble_eq_true rfl) ⟨Nat.zero_le _, Nat.zero_le _⟩ (fun S12 h => ?_)
      refine jSub [0, 1] rfl ?_
      exact j_X11_readLaw_185 C hE t_v0 h
set_option maxHeartbeats 4000000 in
set_option maxRecDepth 100000 in
theorem j_X11_readLaw_75_n {p : Program} {l : Launch} {e : Env} {s : State} {m : MethodId} {args : Array Value} {below : List Frame} {meth : Method} {c : Code} {b : Nat} {D : va_G} {cy : Nat → ClassId} {G : Gm} {v0 : Nat} {v1 : Int32} {v2 : Int32} {Q : St → Prop} (C : CX p s m args meth c b D cy cX11_readLaw RX11 4 none) (hE : s.heap.size + 0 ≤ b + G.2.2) (t_v0 : ok G 10 v0) : ∀ k (v3 : Int32) S, f_X11_readLaw_75_n G v0 v1 v2 Q k v3 S → J p l e rm_X11_readLaw s m args below meth c b D cy 4 (zV b D cy below args s G Q) 0 0 G S 75 [(0, .ref (b + v0)), (1, .int v1), (2, .int v2), (3, .int v3)] [] := by
  intro k
  induction k with
  | zero => intro v3 S h; exact h.elim
  | succ k ih =>
    intro v3 S h
    unfold f_X11_readLaw_75_n at h
    refine jB C [(.iload_n 3, 1, 0), (.bipush 8, 2, 8)] 78 [(0, .ref (b + v0)), (1, .int v1), (2, .int v2), (3, .int v3)] [.int 8, .int v3] (by decide +kernel) rfl rfl ?_
    refine jIcmp_ge C 81 96 (by decide +kernel : decode cX11_readLaw 78 = .ok (.if_icmp .ge 18, 3)) rfl rfl (fun c1 => ?_) (fun c1 => ?_)
    · have h := it1 h c1
      refine jB C [(.aload_n 0, 1, 0)] 97 [(0, .ref (b + v0)), (1, .int v1), (2, .int v2), (3, .int v3)] [.ref (b + v0)] (by decide +kernel) rfl rfl ?_
      obtain ⟨a2, e_a2, h⟩ := h
      refine jGetR C 100 (by decide +kernel : decode cX11_readLaw 97 = .ok (.getfield 45, 3)) rfl t_v0 kX11 23 (by decide) rfl rfl (by decide) wd_1177 e_a2 rfl (fun t_a2 => ?_)
      refine jB C [(.iload_n 2, 1, 0), (.iload_n 1, 1, 0)] 102 [(0, .ref (b + v0)), (1, .int v1), (2, .int v2), (3, .int v3)] [.int v1, .int v2, .ref (b + a2)] (by decide +kernel) rfl rfl ?_
      obtain ⟨y3, h⟩ := h
      refine jIast C 103 (by decide +kernel : decode cX11_readLaw 102 = .ok (.iastore, 1)) rfl hE t_a2 y3 ?_
      refine jTopS (fun S4 e_S4 => ?_)
      have h := h S4 e_S4
      refine jB C [(.aload_n 0, 1, 0), (.dup, 1, 0)] 105 [(0, .ref (b + v0)), (1, .int v1), (2, .int v2), (3, .int v3)] [.ref (b + v0), .ref (b + v0)] (by decide +kernel) rfl rfl ?_
      refine jGetI C 108 (by decide +kernel : decode cX11_readLaw 105 = .ok (.getfield 399, 3)) rfl t_v0 kX11 22 (by decide) rfl rfl (by decide) wd_1176 ?_
      refine jB C [(.iconst 1, 1, 1), (.iadd, 1, 0)] 110 [(0, .ref (b + v0)), (1, .int v1), (2, .int v2), (3, .int v3)] [.int ((S4.1 v0 22) + 1), .ref (b + v0)] (by decide +kernel) rfl rfl ?_
      refine jPutI C 113 (by decide +kernel : decode cX11_readLaw 110 = .ok (.putfield 399, 3)) rfl hE t_v0 kX11 22 (by decide) rfl rfl (by decide) rfl wd_1176 rfl rfl rfl ?_
      refine jTopS (fun S5 e_S5 => ?_)
      have h := h S5 e_S5
      refine jB C [(.aload_n 0, 1, 0)] 114 [(0, .ref (b + v0)), (1, .int v1), (2, .int v2), (3, .int v3)] [.ref (b + v0)] (by decide +kernel) rfl rfl ?_
      obtain ⟨a6, e_a6, h⟩ := h
      refine jGetR C 117 (by decide +kernel : decode cX11_readLaw 114 = .ok (.getfield 45, 3)) rfl t_v0 kX11 23 (by decide) rfl rfl (by decide) wd_1177 e_a6 rfl (fun t_a6 => ?_)
      refine jB C [(.iload_n 2, 1, 0), (.iconst 3, 1, 3), (.iadd, 1, 0), (.aload_n 0, 1, 0)] 121 [(0, .ref (b + v0)), (1, .int v1), (2, .int v2), (3, .int v3)] [.ref (b + v0), .int (v2 + 3), .ref (b + a6)] (by decide +kernel) rfl rfl ?_
      refine jGetI C 124 (by decide +kernel : decode cX11_readLaw 121 = .ok (.getfield 308, 3)) rfl t_v0 kX11 24 (by decide) rfl rfl (by decide) wd_1178 ?_
      obtain ⟨y7, h⟩ := h
      refine jIast C 125 (by decide +kernel : decode cX11_readLaw 124 = .ok (.iastore, 1)) rfl hE t_a6 y7 ?_
      refine jTopS (fun S8 e_S8 => ?_)
      have h := h S8 e_S8
      refine jB C [(.iload_n 1, 1, 0), (.iconst 3, 1, 3)] 127 [(0, .ref (b + v0)), (1, .int v1), (2, .int v2), (3, .int v3)] [.int 3, .int v1] (by decide +kernel) rfl rfl ?_
      refine jIcmp_eq C 130 135 (by decide +kernel : decode cX11_readLaw 127 = .ok (.if_icmp .eq 8, 3)) rfl rfl (fun c9 => ?_) (fun c9 => ?_)
      · have h := it1 h c9
        refine jSub [0, 2] rfl ?_
        exact j_X11_readLaw_135 C hE t_v0 h
      · have h := it2 h c9
        refine jB C [(.aload_n 0, 1, 0), (.iconst 0, 1, 0)] 132 [(0, .ref (b + v0)), (1, .int v1), (2, .int v2), (3, .int v3)] [.int 0, .ref (b + v0)] (by decide +kernel) rfl rfl ?_
        refine jcV_V C 135 (rest := []) (ok_X11_readExpression t_v0 h) (by decide +kernel : decode cX11_readLaw 132 = .ok (.invokevirtual 402, 3)) rfl wd_1550 wd_1552 wp_125 wd_12 wd_1553 ⟨rfl, rfl⟩ hd_X11_readExpression ⟨Nat.le_of_ble_eq_true rfl, Nat.le_of_ble_eq_true rfl⟩ t_v0 kX11 (by decide) rfl rfl rfl (Nat.le_of_ble_eq_true rfl) ⟨Nat.zero_le _, Nat.zero_le _⟩ (fun S10 h => ?_)
        refine jSub [0, 2] rfl ?_
        exact j_X11_readLaw_135 C hE t_v0 h
    · have h := it2 h c1
      refine jB C [(.aload_n 0, 1, 0)] 82 [(0, .ref (b + v0)), (1, .int v1), (2, .int v2), (3, .int v3)] [.ref (b + v0)] (by decide +kernel) rfl rfl ?_
      obtain ⟨a11, e_a11, h⟩ := h
      refine jGetR C 85 (by decide +kernel : decode cX11_readLaw 82 = .ok (.getfield 45, 3)) rfl t_v0 kX11 23 (by decide) rfl rfl (by decide) wd_1177 e_a11 rfl (fun t_a11 => ?_)
      refine jB C [(.iload_n 2, 1, 0), (.iload_n 3, 1, 0), (.iadd, 1, 0), (.iconst 0, 1, 0)] 89 [(0, .ref (b + v0)), (1, .int v1), (2, .int v2), (3, .int v3)] [.int 0, .int (v2 + v3), .ref (b + a11)] (by decide +kernel) rfl rfl ?_
      obtain ⟨y12, h⟩ := h
      refine jIast C 90 (by decide +kernel : decode cX11_readLaw 89 = .ok (.iastore, 1)) rfl hE t_a11 y12 ?_
      refine jTopS (fun S13 e_S13 => ?_)
      have h := h S13 e_S13
      refine jB C [(.iinc 3 1, 3, 1)] 93 [(3, .int (v3 + 1)), (0, .ref (b + v0)), (1, .int v1), (2, .int v2)] [] (by decide +kernel) rfl rfl ?_
      refine jGoto C 75 (by decide +kernel : decode cX11_readLaw 93 = .ok (.goto (-18), 3)) rfl ?_
      refine jSub [1, 2, 3, 0] rfl ?_
      exact ih (v3 + 1) S13 h
theorem j_X11_readLaw_75 {p : Program} {l : Launch} {e : Env} {s : State} {m : MethodId} {args : Array Value} {below : List Frame} {meth : Method} {c : Code} {b : Nat} {D : va_G} {cy : Nat → ClassId} {G : Gm} {v0 : Nat} {v1 : Int32} {v2 : Int32} {v3 : Int32} {S : St} {Q : St → Prop} (C : CX p s m args meth c b D cy cX11_readLaw RX11 4 none) (hE : s.heap.size + 0 ≤ b + G.2.2) (t_v0 : ok G 10 v0) (h : f_X11_readLaw_75 G v0 v1 v2 Q v3 S) : J p l e rm_X11_readLaw s m args below meth c b D cy 4 (zV b D cy below args s G Q) 0 0 G S 75 [(0, .ref (b + v0)), (1, .int v1), (2, .int v2), (3, .int v3)] [] := by
  obtain ⟨k, h⟩ := h
  exact j_X11_readLaw_75_n C hE t_v0 k v3 S h
set_option maxHeartbeats 4000000 in
set_option maxRecDepth 100000 in
theorem j_X11_readLaw_54 {p : Program} {l : Launch} {e : Env} {s : State} {m : MethodId} {args : Array Value} {below : List Frame} {meth : Method} {c : Code} {b : Nat} {D : va_G} {cy : Nat → ClassId} {G : Gm} {v0 : Nat} {v1 : Int32} {u0 : Int32} {u1 : Nat} {S : St} {Q : St → Prop} (C : CX p s m args meth c b D cy cX11_readLaw RX11 4 none) (hE : s.heap.size + 0 ≤ b + G.2.2) (t_v0 : ok G 10 v0) (t_u1 : ok G 10 u1) (h : f_X11_readLaw_54 G v0 v1 u0 u1 Q S) : J p l e rm_X11_readLaw s m args below meth c b D cy 4 (zV b D cy below args s G Q) 0 0 G S 54 [(0, .ref (b + v0)), (1, .int v1)] [.int u0, .ref (b + u1)] := by
  unfold f_X11_readLaw_54 at h
  refine jcV_V C 57 (rest := []) (ok_X11_must t_u1 h) (by decide +kernel : decode cX11_readLaw 54 = .ok (.invokevirtual 304, 3)) rfl wd_1546 wd_1548 wp_124 wd_12 wd_1549 ⟨rfl, rfl⟩ hd_X11_must ⟨Nat.le_of_ble_eq_true rfl, Nat.le_of_ble_eq_true rfl⟩ t_u1 kX11 (by decide) rfl rfl rfl (Nat.le_of_ble_eq_true rfl) ⟨Nat.zero_le _, Nat.zero_le _⟩ (fun S1 h => ?_)
  refine jB C [(.aload_n 0, 1, 0)] 58 [(0, .ref (b + v0)), (1, .int v1)] [.ref (b + v0)] (by decide +kernel) rfl rfl ?_
  refine jGetI C 61 (by decide +kernel : decode cX11_readLaw 58 = .ok (.getfield 271, 3)) rfl t_v0 kX11 20 (by decide) rfl rfl (by decide) wd_1174 ?_
  refine jIf_eq C 64 65 (by decide +kernel : decode cX11_readLaw 61 = .ok (.ifCond .eq 4, 3)) rfl rfl (fun c2 => ?_) (fun c2 => ?_)
  · have h := it1 h c2
    refine jB C [(.bipush 8, 2, 8), (.aload_n 0, 1, 0)] 68 [(0, .ref (b + v0)), (1, .int v1)] [.ref (b + v0), .int 8] (by decide +kernel) rfl rfl ?_
    refine jGetI C 71 (by decide +kernel : decode cX11_readLaw 68 = .ok (.getfield 399, 3)) rfl t_v0 kX11 22 (by decide) rfl rfl (by decide) wd_1176 ?_
    refine jB C [(.imul, 1, 0)] 72 [(0, .ref (b + v0)), (1, .int v1)] [.int (8 * (S1.1 v0 22))] (by decide +kernel) rfl rfl ?_
    refine jTopI (fun x3 e_x3 => ?_)
    have h := h x3 e_x3
    refine jB C [(.istore_n 2, 1, 0), (.iconst 0, 1, 0), (.istore_n 3, 1, 0)] 75 [(3, .int 0), (2, .int x3), (0, .ref (b + v0)), (1, .int v1)] [] (by decide +kernel) rfl rfl ?_
    refine jSub [2, 3, 1, 0] rfl ?_
    exact j_X11_readLaw_75 C hE t_v0 h
  · have h := it2 h c2
    exact jRetV C (by decide +kernel : decode cX11_readLaw 64 = .ok (.return_, 1)) (Nat.le_refl _) (Nat.le_refl _) ⟨rfl, h⟩
set_option maxHeartbeats 4000000 in
set_option maxRecDepth 100000 in
theorem j_X11_readLaw_53 {p : Program} {l : Launch} {e : Env} {s : State} {m : MethodId} {args : Array Value} {below : List Frame} {meth : Method} {c : Code} {b : Nat} {D : va_G} {cy : Nat → ClassId} {G : Gm} {v0 : Nat} {v1 : Int32} {u0 : Nat} {S : St} {Q : St → Prop} (C : CX p s m args meth c b D cy cX11_readLaw RX11 4 none) (hE : s.heap.size + 0 ≤ b + G.2.2) (t_v0 : ok G 10 v0) (t_u0 : ok G 10 u0) (h : f_X11_readLaw_53 G v0 v1 u0 Q S) : J p l e rm_X11_readLaw s m args below meth c b D cy 4 (zV b D cy below args s G Q) 0 0 G S 53 [(0, .ref (b + v0)), (1, .int v1)] [.ref (b + u0)] := by
  unfold f_X11_readLaw_53 at h
  refine jB C [(.iconst 0, 1, 0)] 54 [(0, .ref (b + v0)), (1, .int v1)] [.int 0, .ref (b + u0)] (by decide +kernel) rfl rfl ?_
  refine jSub [0, 1] rfl ?_
  exact j_X11_readLaw_54 C hE t_v0 t_u0 h
set_option maxHeartbeats 4000000 in
set_option maxRecDepth 100000 in
theorem j_X11_readLaw_4_n {p : Program} {l : Launch} {e : Env} {s : State} {m : MethodId} {args : Array Value} {below : List Frame} {meth : Method} {c : Code} {b : Nat} {D : va_G} {cy : Nat → ClassId} {G : Gm} {v0 : Nat} {Q : St → Prop} (C : CX p s m args meth c b D cy cX11_readLaw RX11 4 none) (hE : s.heap.size + 0 ≤ b + G.2.2) (t_v0 : ok G 10 v0) : ∀ k (v1 : Int32) (v2 : Int32) S, f_X11_readLaw_4_n G v0 Q k v1 v2 S → J p l e rm_X11_readLaw s m args below meth c b D cy 4 (zV b D cy below args s G Q) 0 0 G S 4 [(0, .ref (b + v0)), (1, .int v1), (2, .int v2)] [] := by
  intro k
  induction k with
  | zero => intro v1 v2 S h; exact h.elim
  | succ k ih =>
    intro v1 v2 S h
    unfold f_X11_readLaw_4_n at h
    refine jB C [(.iload_n 2, 1, 0), (.iconst 4, 1, 4)] 6 [(0, .ref (b + v0)), (1, .int v1), (2, .int v2)] [.int 4, .int v2] (by decide +kernel) rfl rfl ?_
    refine jIcmp_ge C 9 34 (by decide +kernel : decode cX11_readLaw 6 = .ok (.if_icmp .ge 28, 3)) rfl rfl (fun c1 => ?_) (fun c1 => ?_)
    · have h := it1 h c1
      refine jB C [(.aload_n 0, 1, 0), (.iload_n 1, 1, 0), (.iconst (-1), 1, (-1))] 37 [(0, .ref (b + v0)), (1, .int v1), (2, .int v2)] [.int (-1), .int v1, .ref (b + v0)] (by decide +kernel) rfl rfl ?_
      refine jIcmp_eq C 40 53 (by decide +kernel : decode cX11_readLaw 37 = .ok (.if_icmp .eq 16, 3)) rfl rfl (fun c2 => ?_) (fun c2 => ?_)
      · have h := it1 h c2
        refine jSub [0, 1] rfl ?_
        exact j_X11_readLaw_53 C hE t_v0 t_v0 h
      · have h := it2 h c2
        refine jB C [(.aload_n 0, 1, 0)] 41 [(0, .ref (b + v0)), (1, .int v1), (2, .int v2)] [.ref (b + v0), .ref (b + v0)] (by decide +kernel) rfl rfl ?_
        refine jGetI C 44 (by decide +kernel : decode cX11_readLaw 41 = .ok (.getfield 399, 3)) rfl t_v0 kX11 22 (by decide) rfl rfl (by decide) wd_1176 ?_
        refine jB C [(.bipush 12, 2, 12)] 46 [(0, .ref (b + v0)), (1, .int v1), (2, .int v2)] [.int 12, .int (S.1 v0 22), .ref (b + v0)] (by decide +kernel) rfl rfl ?_
        refine jIcmp_ge C 49 53 (by decide +kernel : decode cX11_readLaw 46 = .ok (.if_icmp .ge 7, 3)) rfl rfl (fun c3 => ?_) (fun c3 => ?_)
        · have h := it1 h c3
          refine jSub [0, 1] rfl ?_
          exact j_X11_readLaw_53 C hE t_v0 t_v0 h
        · have h := it2 h c3
          refine jB C [(.iconst 1, 1, 1)] 50 [(0, .ref (b + v0)), (1, .int v1), (2, .int v2)] [.int 1, .ref (b + v0)] (by decide +kernel) rfl rfl ?_
          refine jGoto C 54 (by decide +kernel : decode cX11_readLaw 50 = .ok (.goto 4, 3)) rfl ?_
          refine jSub [0, 1] rfl ?_
          exact j_X11_readLaw_54 C hE t_v0 t_v0 h
    · have h := it2 h c1
      refine jB C [(.aload_n 0, 1, 0), (.aload_n 0, 1, 0)] 11 [(0, .ref (b + v0)), (1, .int v1), (2, .int v2)] [.ref (b + v0), .ref (b + v0)] (by decide +kernel) rfl rfl ?_
      obtain ⟨a4, e_a4, h⟩ := h
      refine jGetR C 14 (by decide +kernel : decode cX11_readLaw 11 = .ok (.getfield 99, 3)) rfl t_v0 kX11 34 (by decide) rfl rfl (by decide) wd_1188 e_a4 rfl (fun t_a4 => ?_)
      refine jB C [(.iload_n 2, 1, 0)] 15 [(0, .ref (b + v0)), (1, .int v1), (2, .int v2)] [.int v2, .ref (b + a4), .ref (b + v0)] (by decide +kernel) rfl rfl ?_
      obtain ⟨y5, h⟩ := h
      refine jLald C 16 (by decide +kernel : decode cX11_readLaw 15 = .ok (.laload, 1)) rfl t_a4 y5 ?_
      refine jcV_I C 19 (rest := []) (ok_X11_isWord t_v0 h) (by decide +kernel : decode cX11_readLaw 16 = .ok (.invokevirtual 328, 3)) rfl wd_1542 wd_1544 wp_123 wd_12 wd_1545 ⟨rfl, rfl⟩ hd_X11_isWord ⟨Nat.le_of_ble_eq_true rfl, Nat.le_of_ble_eq_true rfl⟩ t_v0 kX11 (by decide) rfl rfl rfl (Nat.le_of_ble_eq_true rfl) ⟨Nat.zero_le _, Nat.zero_le _⟩ (fun r7 S6 h => ?_)
      refine jIf_eq C 22 26 (by decide +kernel : decode cX11_readLaw 19 = .ok (.ifCond .eq 7, 3)) rfl rfl (fun c8 => ?_) (fun c8 => ?_)
      · have h := it1 h c8
        refine jB C [(.iload_n 1, 1, 0), (.istore_n 1, 1, 0), (.iinc 2 1, 3, 1)] 31 [(2, .int (v2 + 1)), (1, .int v1), (0, .ref (b + v0))] [] (by decide +kernel) rfl rfl ?_
        refine jGoto C 4 (by decide +kernel : decode cX11_readLaw 31 = .ok (.goto (-27), 3)) rfl ?_
        refine jSub [2, 1, 0] rfl ?_
        exact ih v1 (v2 + 1) S6 h
      · have h := it2 h c8
        refine jB C [(.iload_n 2, 1, 0)] 23 [(0, .ref (b + v0)), (1, .int v1), (2, .int v2)] [.int v2] (by decide +kernel) rfl rfl ?_
        refine jGoto C 27 (by decide +kernel : decode cX11_readLaw 23 = .ok (.goto 4, 3)) rfl ?_
        refine jB C [(.istore_n 1, 1, 0), (.iinc 2 1, 3, 1)] 31 [(2, .int (v2 + 1)), (1, .int v2), (0, .ref (b + v0))] [] (by decide +kernel) rfl rfl ?_
        refine jGoto C 4 (by decide +kernel : decode cX11_readLaw 31 = .ok (.goto (-27), 3)) rfl ?_
        refine jSub [2, 1, 0] rfl ?_
        exact ih v2 (v2 + 1) S6 h
theorem j_X11_readLaw_4 {p : Program} {l : Launch} {e : Env} {s : State} {m : MethodId} {args : Array Value} {below : List Frame} {meth : Method} {c : Code} {b : Nat} {D : va_G} {cy : Nat → ClassId} {G : Gm} {v0 : Nat} {v1 : Int32} {v2 : Int32} {S : St} {Q : St → Prop} (C : CX p s m args meth c b D cy cX11_readLaw RX11 4 none) (hE : s.heap.size + 0 ≤ b + G.2.2) (t_v0 : ok G 10 v0) (h : f_X11_readLaw_4 G v0 Q v1 v2 S) : J p l e rm_X11_readLaw s m args below meth c b D cy 4 (zV b D cy below args s G Q) 0 0 G S 4 [(0, .ref (b + v0)), (1, .int v1), (2, .int v2)] [] := by
  obtain ⟨k, h⟩ := h
  exact j_X11_readLaw_4_n C hE t_v0 k v1 v2 S h
set_option maxHeartbeats 4000000 in
set_option maxRecDepth 100000 in
theorem j_X11_readLaw {p : Program} {l : Launch} {e : Env} {s : State} {m : MethodId} {args : Array Value} {below : List Frame} {meth : Method} {c : Code} {b : Nat} {D : va_G} {cy : Nat → ClassId} {G : Gm} {v0 : Nat} {S : St} {Q : St → Prop} (C : CX p s m args meth c b D cy cX11_readLaw RX11 4 none) (hE : s.heap.size + 0 ≤ b + G.2.2) (t_v0 : ok G 10 v0) (h : f_X11_readLaw G v0 Q S) : J p l e rm_X11_readLaw s m args below meth c b D cy 4 (zV b D cy below args s G Q) 0 0 G S 0 [(0, .ref (b + v0))] [] := by
  unfold f_X11_readLaw at h
  refine jB C [(.iconst (-1), 1, (-1)), (.istore_n 1, 1, 0), (.iconst 0, 1, 0), (.istore_n 2, 1, 0)] 4 [(2, .int 0), (1, .int (-1)), (0, .ref (b + v0))] [] (by decide +kernel) rfl rfl ?_
  refine jSub [2, 1, 0] rfl ?_
  exact j_X11_readLaw_4 C hE t_v0 h
theorem ok_X11_readLaw {G : Gm} {v0 : Nat} {S : St} {Q : St → Prop}  (t_v0 : ok G 10 v0) (h : f_X11_readLaw G v0 Q S) : MT yX11_readLaw cX11_readLaw 4 none rm_X11_readLaw 0 0 (fun b => [.ref (b + v0)]) G S (QV (fun G1 S1 => G1 = G ∧ Q S1)) := MT.ofJ (by decide +kernel) (fun b => [(0, .ref (b + v0))]) (fun b => rfl) (fun b => Nat.le_of_ble_eq_true rfl) (fun l b D cy p e s m below meth c C hE hn => j_X11_readLaw C hE t_v0 h)
theorem hd_X11_readLaw : yX11_readLaw.cls ≠ "java/lang/invoke/MethodHandle" ∧ yX11_readLaw.cls ≠ "java/lang/invoke/VarHandle" ∧ (parseMethodDescriptor yX11_readLaw.desc).map (fun d => d.parameters.length) = some 0 := by decide +kernel
abbrev rm_X11_law : Room := { frames := 8, cells := 0, slots := 0, locals := 174 }
set_option maxHeartbeats 4000000 in
set_option maxRecDepth 100000 in
theorem j_X11_law_145_n {p : Program} {l : Launch} {e : Env} {s : State} {m : MethodId} {args : Array Value} {below : List Frame} {meth : Method} {c : Code} {b : Nat} {D : va_G} {cy : Nat → ClassId} {G : Gm} {v0 : Nat} {v1 : Int32} {Q : Int32 → St → Prop} (C : CX p s m args meth c b D cy cX11_law RX11 3 (some .int)) (hE : s.heap.size + 0 ≤ b + G.2.2) (t_v0 : ok G 10 v0) : ∀ k (v2 : Int32) S, f_X11_law_145_n G v0 v1 Q k v2 S → J p l e rm_X11_law s m args below meth c b D cy 3 (zI b D cy below args s G Q) 0 0 G S 145 [(0, .ref (b + v0)), (1, .int v1), (2, .int v2)] [] := by
  intro k
  induction k with
  | zero => intro v2 S h; exact h.elim
  | succ k ih =>
    intro v2 S h
    unfold f_X11_law_145_n at h
    refine jB C [(.iload_n 2, 1, 0), (.aload_n 0, 1, 0)] 147 [(0, .ref (b + v0)), (1, .int v1), (2, .int v2)] [.ref (b + v0), .int v2] (by decide +kernel) rfl rfl ?_
    refine jGetI C 150 (by decide +kernel : decode cX11_law 147 = .ok (.getfield 308, 3)) rfl t_v0 kX11 24 (by decide) rfl rfl (by decide) wd_1178 ?_
    refine jIcmp_ge C 153 199 (by decide +kernel : decode cX11_law 150 = .ok (.if_icmp .ge 49, 3)) rfl rfl (fun c1 => ?_) (fun c1 => ?_)
    · have h := it1 h c1
      refine jB C [(.aload_n 0, 1, 0)] 200 [(0, .ref (b + v0)), (1, .int v1), (2, .int v2)] [.ref (b + v0)] (by decide +kernel) rfl rfl ?_
      obtain ⟨a2, e_a2, h⟩ := h
      refine jGetR C 203 (by decide +kernel : decode cX11_law 200 = .ok (.getfield 16, 3)) rfl t_v0 kX11 4 (by decide) rfl rfl (by decide) wd_1158 e_a2 rfl (fun t_a2 => ?_)
      refine jB C [(.iconst 2, 1, 2), (.dup2, 1, 0)] 205 [(0, .ref (b + v0)), (1, .int v1), (2, .int v2)] [.int 2, .ref (b + a2), .int 2, .ref (b + a2)] (by decide +kernel) rfl rfl ?_
      obtain ⟨y3, h⟩ := h
      refine jIald C 206 (by decide +kernel : decode cX11_law 205 = .ok (.iaload, 1)) rfl t_a2 y3 ?_
      refine jB C [(.iconst 1, 1, 1), (.iadd, 1, 0)] 208 [(0, .ref (b + v0)), (1, .int v1), (2, .int v2)] [.int ((S.1 a2 (2 : Int32).toNatClampNeg) + 1), .int 2, .ref (b + a2)] (by decide +kernel) rfl rfl ?_
      obtain ⟨y4, h⟩ := h
      refine jIast C 209 (by decide +kernel : decode cX11_law 208 = .ok (.iastore, 1)) rfl hE t_a2 y4 ?_
      refine jTopS (fun S5 e_S5 => ?_)
      have h := h S5 e_S5
      refine jB C [(.aload_n 0, 1, 0), (.aload_n 0, 1, 0)] 211 [(0, .ref (b + v0)), (1, .int v1), (2, .int v2)] [.ref (b + v0), .ref (b + v0)] (by decide +kernel) rfl rfl ?_
      obtain ⟨a6, e_a6, h⟩ := h
      refine jGetR C 214 (by decide +kernel : decode cX11_law 211 = .ok (.getfield 16, 3)) rfl t_v0 kX11 4 (by decide) rfl rfl (by decide) wd_1158 e_a6 rfl (fun t_a6 => ?_)
      refine jB C [(.iconst 2, 1, 2)] 215 [(0, .ref (b + v0)), (1, .int v1), (2, .int v2)] [.int 2, .ref (b + a6), .ref (b + v0)] (by decide +kernel) rfl rfl ?_
      obtain ⟨y7, h⟩ := h
      refine jIald C 216 (by decide +kernel : decode cX11_law 215 = .ok (.iaload, 1)) rfl t_a6 y7 ?_
      refine jB C [(.iconst 1, 1, 1), (.isub, 1, 0)] 218 [(0, .ref (b + v0)), (1, .int v1), (2, .int v2)] [.int ((S5.1 a6 (2 : Int32).toNatClampNeg) - 1), .ref (b + v0)] (by decide +kernel) rfl rfl ?_
      refine jcV_I C 221 (rest := []) (ok_X11_tell t_v0 h) (by decide +kernel : decode cX11_law 218 = .ok (.invokevirtual 174, 3)) rfl wd_1340 wd_1342 wp_99 wd_12 wd_1343 ⟨rfl, rfl⟩ hd_X11_tell ⟨Nat.le_of_ble_eq_true rfl, Nat.le_of_ble_eq_true rfl⟩ t_v0 kX11 (by decide) rfl rfl rfl (Nat.le_of_ble_eq_true rfl) ⟨Nat.zero_le _, Nat.zero_le _⟩ (fun r9 S8 h => ?_)
      exact jRetI C (by decide +kernel : decode cX11_law 221 = .ok (.ireturn, 1)) (Nat.le_refl _) (Nat.le_refl _) ⟨rfl, h⟩
    · have h := it2 h c1
      refine jB C [(.aload_n 0, 1, 0)] 154 [(0, .ref (b + v0)), (1, .int v1), (2, .int v2)] [.ref (b + v0)] (by decide +kernel) rfl rfl ?_
      obtain ⟨a10, e_a10, h⟩ := h
      refine jGetR C 157 (by decide +kernel : decode cX11_law 154 = .ok (.getfield 16, 3)) rfl t_v0 kX11 4 (by decide) rfl rfl (by decide) wd_1158 e_a10 rfl (fun t_a10 => ?_)
      refine jB C [(.iload_n 1, 1, 0), (.bipush 98, 2, 98), (.iadd, 1, 0), (.iconst 2, 1, 2), (.iload_n 2, 1, 0), (.imul, 1, 0), (.iadd, 1, 0), (.aload_n 0, 1, 0)] 166 [(0, .ref (b + v0)), (1, .int v1), (2, .int v2)] [.ref (b + v0), .int ((v1 + 98) + (2 * v2)), .ref (b + a10)] (by decide +kernel) rfl rfl ?_
      obtain ⟨a11, e_a11, h⟩ := h
      refine jGetR C 169 (by decide +kernel : decode cX11_law 166 = .ok (.getfield 48, 3)) rfl t_v0 kX11 25 (by decide) rfl rfl (by decide) wd_1179 e_a11 rfl (fun t_a11 => ?_)
      refine jB C [(.iload_n 2, 1, 0)] 170 [(0, .ref (b + v0)), (1, .int v1), (2, .int v2)] [.int v2, .ref (b + a11), .int ((v1 + 98) + (2 * v2)), .ref (b + a10)] (by decide +kernel) rfl rfl ?_
      obtain ⟨y12, h⟩ := h
      refine jIald C 171 (by decide +kernel : decode cX11_law 170 = .ok (.iaload, 1)) rfl t_a11 y12 ?_
      obtain ⟨y13, h⟩ := h
      refine jIast C 172 (by decide +kernel : decode cX11_law 171 = .ok (.iastore, 1)) rfl hE t_a10 y13 ?_
      refine jTopS (fun S14 e_S14 => ?_)
      have h := h S14 e_S14
      refine jB C [(.aload_n 0, 1, 0)] 173 [(0, .ref (b + v0)), (1, .int v1), (2, .int v2)] [.ref (b + v0)] (by decide +kernel) rfl rfl ?_
      obtain ⟨a15, e_a15, h⟩ := h
      refine jGetR C 176 (by decide +kernel : decode cX11_law 173 = .ok (.getfield 16, 3)) rfl t_v0 kX11 4 (by decide) rfl rfl (by decide) wd_1158 e_a15 rfl (fun t_a15 => ?_)
      refine jB C [(.iload_n 1, 1, 0), (.bipush 98, 2, 98), (.iadd, 1, 0), (.iconst 2, 1, 2), (.iload_n 2, 1, 0), (.imul, 1, 0), (.iadd, 1, 0), (.iconst 1, 1, 1), (.iadd, 1, 0), (.aload_n 0, 1, 0)] 187 [(0, .ref (b + v0)), (1, .int v1), (2, .int v2)] [.ref (b + v0), .int (((v1 + 98) + (2 * v2)) + 1), .ref (b + a15)] (by decide +kernel) rfl rfl ?_
      obtain ⟨a16, e_a16, h⟩ := h
      refine jGetR C 190 (by decide +kernel : decode cX11_law 187 = .ok (.getfield 51, 3)) rfl t_v0 kX11 26 (by decide) rfl rfl (by decide) wd_1180 e_a16 rfl (fun t_a16 => ?_)
      refine jB C [(.iload_n 2, 1, 0)] 191 [(0, .ref (b + v0)), (1, .int v1), (2, .int v2)] [.int v2, .ref (b + a16), .int (((v1 + 98) + (2 * v2)) + 1), .ref (b + a15)] (by decide +kernel) rfl rfl ?_
      obtain ⟨y17, h⟩ := h
      refine jIald C 192 (by decide +kernel : decode cX11_law 191 = .ok (.iaload, 1)) rfl t_a16 y17 ?_
      obtain ⟨y18, h⟩ := h
      refine jIast C 193 (by decide +kernel : decode cX11_law 192 = .ok (.iastore, 1)) rfl hE t_a15 y18 ?_
      refine jTopS (fun S19 e_S19 => ?_)
      have h := h S19 e_S19
      refine jB C [(.iinc 2 1, 3, 1)] 196 [(2, .int (v2 + 1)), (0, .ref (b + v0)), (1, .int v1)] [] (by decide +kernel) rfl rfl ?_
      refine jGoto C 145 (by decide +kernel : decode cX11_law 196 = .ok (.goto (-51), 3)) rfl ?_
      refine jSub [1, 2, 0] rfl ?_
      exact ih (v2 + 1) S19 h
theorem j_X11_law_145 {p : Program} {l : Launch} {e : Env} {s : State} {m : MethodId} {args : Array Value} {below : List Frame} {meth : Method} {c : Code} {b : Nat} {D : va_G} {cy : Nat → ClassId} {G : Gm} {v0 : Nat} {v1 : Int32} {v2 : Int32} {S : St} {Q : Int32 → St → Prop} (C : CX p s m args meth c b D cy cX11_law RX11 3 (some .int)) (hE : s.heap.size + 0 ≤ b + G.2.2) (t_v0 : ok G 10 v0) (h : f_X11_law_145 G v0 v1 Q v2 S) : J p l e rm_X11_law s m args below meth c b D cy 3 (zI b D cy below args s G Q) 0 0 G S 145 [(0, .ref (b + v0)), (1, .int v1), (2, .int v2)] [] := by
  obtain ⟨k, h⟩ := h
  exact j_X11_law_145_n C hE t_v0 k v2 S h
set_option maxHeartbeats 4000000 in
set_option maxRecDepth 100000 in
theorem j_X11_law_110_n {p : Program} {l : Launch} {e : Env} {s : State} {m : MethodId} {args : Array Value} {below : List Frame} {meth : Method} {c : Code} {b : Nat} {D : va_G} {cy : Nat → ClassId} {G : Gm} {v0 : Nat} {v1 : Int32} {Q : Int32 → St → Prop} (C : CX p s m args meth c b D cy cX11_law RX11 3 (some .int)) (hE : s.heap.size + 0 ≤ b + G.2.2) (t_v0 : ok G 10 v0) : ∀ k (v2 : Int32) S, f_X11_law_110_n G v0 v1 Q k v2 S → J p l e rm_X11_law s m args below meth c b D cy 3 (zI b D cy below args s G Q) 0 0 G S 110 [(0, .ref (b + v0)), (1, .int v1), (2, .int v2)] [] := by
  intro k
  induction k with
  | zero => intro v2 S h; exact h.elim
  | succ k ih =>
    intro v2 S h
    unfold f_X11_law_110_n at h
    refine jB C [(.iload_n 2, 1, 0), (.bipush 8, 2, 8), (.aload_n 0, 1, 0)] 114 [(0, .ref (b + v0)), (1, .int v1), (2, .int v2)] [.ref (b + v0), .int 8, .int v2] (by decide +kernel) rfl rfl ?_
    refine jGetI C 117 (by decide +kernel : decode cX11_law 114 = .ok (.getfield 399, 3)) rfl t_v0 kX11 22 (by decide) rfl rfl (by decide) wd_1176 ?_
    refine jB C [(.imul, 1, 0)] 118 [(0, .ref (b + v0)), (1, .int v1), (2, .int v2)] [.int (8 * (S.1 v0 22)), .int v2] (by decide +kernel) rfl rfl ?_
    refine jIcmp_ge C 121 143 (by decide +kernel : decode cX11_law 118 = .ok (.if_icmp .ge 25, 3)) rfl rfl (fun c1 => ?_) (fun c1 => ?_)
    · have h := it1 h c1
      refine jB C [(.iconst 0, 1, 0), (.istore_n 2, 1, 0)] 145 [(2, .int 0), (0, .ref (b + v0)), (1, .int v1)] [] (by decide +kernel) rfl rfl ?_
      refine jSub [1, 2, 0] rfl ?_
      exact j_X11_law_145 C hE t_v0 h
    · have h := it2 h c1
      refine jB C [(.aload_n 0, 1, 0)] 122 [(0, .ref (b + v0)), (1, .int v1), (2, .int v2)] [.ref (b + v0)] (by decide +kernel) rfl rfl ?_
      obtain ⟨a2, e_a2, h⟩ := h
      refine jGetR C 125 (by decide +kernel : decode cX11_law 122 = .ok (.getfield 16, 3)) rfl t_v0 kX11 4 (by decide) rfl rfl (by decide) wd_1158 e_a2 rfl (fun t_a2 => ?_)
      refine jB C [(.iload_n 1, 1, 0), (.iconst 2, 1, 2), (.iadd, 1, 0), (.iload_n 2, 1, 0), (.iadd, 1, 0), (.aload_n 0, 1, 0)] 131 [(0, .ref (b + v0)), (1, .int v1), (2, .int v2)] [.ref (b + v0), .int ((v1 + 2) + v2), .ref (b + a2)] (by decide +kernel) rfl rfl ?_
      obtain ⟨a3, e_a3, h⟩ := h
      refine jGetR C 134 (by decide +kernel : decode cX11_law 131 = .ok (.getfield 45, 3)) rfl t_v0 kX11 23 (by decide) rfl rfl (by decide) wd_1177 e_a3 rfl (fun t_a3 => ?_)
      refine jB C [(.iload_n 2, 1, 0)] 135 [(0, .ref (b + v0)), (1, .int v1), (2, .int v2)] [.int v2, .ref (b + a3), .int ((v1 + 2) + v2), .ref (b + a2)] (by decide +kernel) rfl rfl ?_
      obtain ⟨y4, h⟩ := h
      refine jIald C 136 (by decide +kernel : decode cX11_law 135 = .ok (.iaload, 1)) rfl t_a3 y4 ?_
      obtain ⟨y5, h⟩ := h
      refine jIast C 137 (by decide +kernel : decode cX11_law 136 = .ok (.iastore, 1)) rfl hE t_a2 y5 ?_
      refine jTopS (fun S6 e_S6 => ?_)
      have h := h S6 e_S6
      refine jB C [(.iinc 2 1, 3, 1)] 140 [(2, .int (v2 + 1)), (0, .ref (b + v0)), (1, .int v1)] [] (by decide +kernel) rfl rfl ?_
      refine jGoto C 110 (by decide +kernel : decode cX11_law 140 = .ok (.goto (-30), 3)) rfl ?_
      refine jSub [1, 2, 0] rfl ?_
      exact ih (v2 + 1) S6 h
theorem j_X11_law_110 {p : Program} {l : Launch} {e : Env} {s : State} {m : MethodId} {args : Array Value} {below : List Frame} {meth : Method} {c : Code} {b : Nat} {D : va_G} {cy : Nat → ClassId} {G : Gm} {v0 : Nat} {v1 : Int32} {v2 : Int32} {S : St} {Q : Int32 → St → Prop} (C : CX p s m args meth c b D cy cX11_law RX11 3 (some .int)) (hE : s.heap.size + 0 ≤ b + G.2.2) (t_v0 : ok G 10 v0) (h : f_X11_law_110 G v0 v1 Q v2 S) : J p l e rm_X11_law s m args below meth c b D cy 3 (zI b D cy below args s G Q) 0 0 G S 110 [(0, .ref (b + v0)), (1, .int v1), (2, .int v2)] [] := by
  obtain ⟨k, h⟩ := h
  exact j_X11_law_110_n C hE t_v0 k v2 S h
set_option maxHeartbeats 4000000 in
set_option maxRecDepth 100000 in
theorem j_X11_law_64 {p : Program} {l : Launch} {e : Env} {s : State} {m : MethodId} {args : Array Value} {below : List Frame} {meth : Method} {c : Code} {b : Nat} {D : va_G} {cy : Nat → ClassId} {G : Gm} {v0 : Nat} {S : St} {Q : Int32 → St → Prop} (C : CX p s m args meth c b D cy cX11_law RX11 3 (some .int)) (hE : s.heap.size + 0 ≤ b + G.2.2) (t_v0 : ok G 10 v0) (h : f_X11_law_64 G v0 Q S) : J p l e rm_X11_law s m args below meth c b D cy 3 (zI b D cy below args s G Q) 0 0 G S 64 [(0, .ref (b + v0))] [] := by
  unfold f_X11_law_64 at h
  refine jB C [(.aload_n 0, 1, 0)] 65 [(0, .ref (b + v0))] [.ref (b + v0)] (by decide +kernel) rfl rfl ?_
  refine jcV_V C 68 (rest := []) (ok_X11_endText t_v0 h) (by decide +kernel : decode cX11_law 65 = .ok (.invokevirtual 413, 3)) rfl wd_1626 wd_1628 wp_141 wd_12 wd_1629 ⟨rfl, rfl⟩ hd_X11_endText ⟨Nat.le_of_ble_eq_true rfl, Nat.le_of_ble_eq_true rfl⟩ t_v0 kX11 (by decide) rfl rfl rfl (Nat.le_of_ble_eq_true rfl) ⟨Nat.zero_le _, Nat.zero_le _⟩ (fun S1 h => ?_)
  refine jB C [(.aload_n 0, 1, 0)] 69 [(0, .ref (b + v0))] [.ref (b + v0)] (by decide +kernel) rfl rfl ?_
  refine jGetI C 72 (by decide +kernel : decode cX11_law 69 = .ok (.getfield 271, 3)) rfl t_v0 kX11 20 (by decide) rfl rfl (by decide) wd_1174 ?_
  refine jIf_eq C 75 82 (by decide +kernel : decode cX11_law 72 = .ok (.ifCond .eq 10, 3)) rfl rfl (fun c2 => ?_) (fun c2 => ?_)
  · have h := it1 h c2
    refine jB C [(.bipush 85, 2, 85), (.sipush 900, 3, 900), (.aload_n 0, 1, 0)] 88 [(0, .ref (b + v0))] [.ref (b + v0), .int 900, .int 85] (by decide +kernel) rfl rfl ?_
    obtain ⟨a3, e_a3, h⟩ := h
    refine jGetR C 91 (by decide +kernel : decode cX11_law 88 = .ok (.getfield 16, 3)) rfl t_v0 kX11 4 (by decide) rfl rfl (by decide) wd_1158 e_a3 rfl (fun t_a3 => ?_)
    refine jB C [(.iconst 2, 1, 2)] 92 [(0, .ref (b + v0))] [.int 2, .ref (b + a3), .int 900, .int 85] (by decide +kernel) rfl rfl ?_
    obtain ⟨y4, h⟩ := h
    refine jIald C 93 (by decide +kernel : decode cX11_law 92 = .ok (.iaload, 1)) rfl t_a3 y4 ?_
    refine jB C [(.imul, 1, 0), (.iadd, 1, 0)] 95 [(0, .ref (b + v0))] [.int (85 + (900 * (S1.1 a3 (2 : Int32).toNatClampNeg)))] (by decide +kernel) rfl rfl ?_
    refine jTopI (fun x5 e_x5 => ?_)
    have h := h x5 e_x5
    refine jB C [(.istore_n 1, 1, 0), (.aload_n 0, 1, 0)] 97 [(1, .int x5), (0, .ref (b + v0))] [.ref (b + v0)] (by decide +kernel) rfl rfl ?_
    obtain ⟨a6, e_a6, h⟩ := h
    refine jGetR C 100 (by decide +kernel : decode cX11_law 97 = .ok (.getfield 16, 3)) rfl t_v0 kX11 4 (by decide) rfl rfl (by decide) wd_1158 e_a6 rfl (fun t_a6 => ?_)
    refine jB C [(.iload_n 1, 1, 0), (.iconst 1, 1, 1), (.iadd, 1, 0), (.aload_n 0, 1, 0)] 104 [(1, .int x5), (0, .ref (b + v0))] [.ref (b + v0), .int (x5 + 1), .ref (b + a6)] (by decide +kernel) rfl rfl ?_
    refine jGetI C 107 (by decide +kernel : decode cX11_law 104 = .ok (.getfield 399, 3)) rfl t_v0 kX11 22 (by decide) rfl rfl (by decide) wd_1176 ?_
    obtain ⟨y7, h⟩ := h
    refine jIast C 108 (by decide +kernel : decode cX11_law 107 = .ok (.iastore, 1)) rfl hE t_a6 y7 ?_
    refine jTopS (fun S8 e_S8 => ?_)
    have h := h S8 e_S8
    refine jB C [(.iconst 0, 1, 0), (.istore_n 2, 1, 0)] 110 [(2, .int 0), (1, .int x5), (0, .ref (b + v0))] [] (by decide +kernel) rfl rfl ?_
    refine jSub [2, 1, 0] rfl ?_
    exact j_X11_law_110 C hE t_v0 h
  · have h := it2 h c2
    refine jB C [(.aload_n 0, 1, 0), (.bipush (-6), 2, (-6))] 78 [(0, .ref (b + v0))] [.int (-6), .ref (b + v0)] (by decide +kernel) rfl rfl ?_
    refine jcV_I C 81 (rest := []) (ok_X11_tell t_v0 h) (by decide +kernel : decode cX11_law 78 = .ok (.invokevirtual 174, 3)) rfl wd_1340 wd_1342 wp_99 wd_12 wd_1343 ⟨rfl, rfl⟩ hd_X11_tell ⟨Nat.le_of_ble_eq_true rfl, Nat.le_of_ble_eq_true rfl⟩ t_v0 kX11 (by decide) rfl rfl rfl (Nat.le_of_ble_eq_true rfl) ⟨Nat.zero_le _, Nat.zero_le _⟩ (fun r10 S9 h => ?_)
    exact jRetI C (by decide +kernel : decode cX11_law 81 = .ok (.ireturn, 1)) (Nat.le_refl _) (Nat.le_refl _) ⟨rfl, h⟩
set_option maxHeartbeats 4000000 in
set_option maxRecDepth 100000 in
theorem j_X11_law_37_n {p : Program} {l : Launch} {e : Env} {s : State} {m : MethodId} {args : Array Value} {below : List Frame} {meth : Method} {c : Code} {b : Nat} {D : va_G} {cy : Nat → ClassId} {G : Gm} {v0 : Nat} {Q : Int32 → St → Prop} (C : CX p s m args meth c b D cy cX11_law RX11 3 (some .int)) (hE : s.heap.size + 0 ≤ b + G.2.2) (t_v0 : ok G 10 v0) : ∀ k S, f_X11_law_37_n G v0 Q k S → J p l e rm_X11_law s m args below meth c b D cy 3 (zI b D cy below args s G Q) 0 0 G S 37 [(0, .ref (b + v0))] [] := by
  intro k
  induction k with
  | zero => intro S h; exact h.elim
  | succ k ih =>
    intro S h
    unfold f_X11_law_37_n at h
    refine jB C [(.aload_n 0, 1, 0)] 38 [(0, .ref (b + v0))] [.ref (b + v0)] (by decide +kernel) rfl rfl ?_
    refine jGetI C 41 (by decide +kernel : decode cX11_law 38 = .ok (.getfield 271, 3)) rfl t_v0 kX11 20 (by decide) rfl rfl (by decide) wd_1174 ?_
    refine jIf_ne C 44 64 (by decide +kernel : decode cX11_law 41 = .ok (.ifCond .ne 23, 3)) rfl rfl (fun c1 => ?_) (fun c1 => ?_)
    · have h := it2 h c1
      refine jSub [0] rfl ?_
      exact j_X11_law_64 C hE t_v0 h
    · have h := it1 h c1
      refine jB C [(.aload_n 0, 1, 0), (.bipush 59, 2, 59)] 47 [(0, .ref (b + v0))] [.int 59, .ref (b + v0)] (by decide +kernel) rfl rfl ?_
      refine jcV_I C 50 (rest := []) (ok_X11_isSign t_v0 h) (by decide +kernel : decode cX11_law 47 = .ok (.invokevirtual 341, 3)) rfl wd_1563 wd_1565 wp_128 wd_12 wd_1566 ⟨rfl, rfl⟩ hd_X11_isSign ⟨Nat.le_of_ble_eq_true rfl, Nat.le_of_ble_eq_true rfl⟩ t_v0 kX11 (by decide) rfl rfl rfl (Nat.le_of_ble_eq_true rfl) ⟨Nat.zero_le _, Nat.zero_le _⟩ (fun r3 S2 h => ?_)
      refine jIf_eq C 53 64 (by decide +kernel : decode cX11_law 50 = .ok (.ifCond .eq 14, 3)) rfl rfl (fun c4 => ?_) (fun c4 => ?_)
      · have h := it1 h c4
        refine jSub [0] rfl ?_
        exact j_X11_law_64 C hE t_v0 h
      · have h := it2 h c4
        refine jB C [(.aload_n 0, 1, 0)] 54 [(0, .ref (b + v0))] [.ref (b + v0)] (by decide +kernel) rfl rfl ?_
        refine jcV_V C 57 (rest := []) (ok_X11_next t_v0 h) (by decide +kernel : decode cX11_law 54 = .ok (.invokevirtual 275, 3)) rfl wd_1524 wd_1526 wp_121 wd_12 wd_1527 ⟨rfl, rfl⟩ hd_X11_next ⟨Nat.le_of_ble_eq_true rfl, Nat.le_of_ble_eq_true rfl⟩ t_v0 kX11 (by decide) rfl rfl rfl (Nat.le_of_ble_eq_true rfl) ⟨Nat.zero_le _, Nat.zero_le _⟩ (fun S5 h => ?_)
        refine jB C [(.aload_n 0, 1, 0)] 58 [(0, .ref (b + v0))] [.ref (b + v0)] (by decide +kernel) rfl rfl ?_
        refine jcV_V C 61 (rest := []) (ok_X11_readLaw t_v0 h) (by decide +kernel : decode cX11_law 58 = .ok (.invokevirtual 410, 3)) rfl wd_1538 wd_1540 wp_122 wd_12 wd_1541 ⟨rfl, rfl⟩ hd_X11_readLaw ⟨Nat.le_of_ble_eq_true rfl, Nat.le_of_ble_eq_true rfl⟩ t_v0 kX11 (by decide) rfl rfl rfl (Nat.le_of_ble_eq_true rfl) ⟨Nat.zero_le _, Nat.zero_le _⟩ (fun S6 h => ?_)
        refine jGoto C 37 (by decide +kernel : decode cX11_law 61 = .ok (.goto (-24), 3)) rfl ?_
        refine jSub [0] rfl ?_
        exact ih S6 h
theorem j_X11_law_37 {p : Program} {l : Launch} {e : Env} {s : State} {m : MethodId} {args : Array Value} {below : List Frame} {meth : Method} {c : Code} {b : Nat} {D : va_G} {cy : Nat → ClassId} {G : Gm} {v0 : Nat} {S : St} {Q : Int32 → St → Prop} (C : CX p s m args meth c b D cy cX11_law RX11 3 (some .int)) (hE : s.heap.size + 0 ≤ b + G.2.2) (t_v0 : ok G 10 v0) (h : f_X11_law_37 G v0 Q S) : J p l e rm_X11_law s m args below meth c b D cy 3 (zI b D cy below args s G Q) 0 0 G S 37 [(0, .ref (b + v0))] [] := by
  obtain ⟨k, h⟩ := h
  exact j_X11_law_37_n C hE t_v0 k S h
set_option maxHeartbeats 4000000 in
set_option maxRecDepth 100000 in
theorem j_X11_law {p : Program} {l : Launch} {e : Env} {s : State} {m : MethodId} {args : Array Value} {below : List Frame} {meth : Method} {c : Code} {b : Nat} {D : va_G} {cy : Nat → ClassId} {G : Gm} {v0 : Nat} {S : St} {Q : Int32 → St → Prop} (C : CX p s m args meth c b D cy cX11_law RX11 3 (some .int)) (hE : s.heap.size + 0 ≤ b + G.2.2) (t_v0 : ok G 10 v0) (h : f_X11_law G v0 Q S) : J p l e rm_X11_law s m args below meth c b D cy 3 (zI b D cy below args s G Q) 0 0 G S 0 [(0, .ref (b + v0))] [] := by
  unfold f_X11_law at h
  refine jB C [(.aload_n 0, 1, 0), (.iconst 0, 1, 0)] 2 [(0, .ref (b + v0))] [.int 0, .ref (b + v0)] (by decide +kernel) rfl rfl ?_
  refine jPutI C 5 (by decide +kernel : decode cX11_law 2 = .ok (.putfield 165, 3)) rfl hE t_v0 kX11 0 (by decide) rfl rfl (by decide) rfl wd_1154 rfl rfl rfl ?_
  refine jTopS (fun S1 e_S1 => ?_)
  have h := h S1 e_S1
  refine jB C [(.aload_n 0, 1, 0)] 6 [(0, .ref (b + v0))] [.ref (b + v0)] (by decide +kernel) rfl rfl ?_
  obtain ⟨a2, e_a2, h⟩ := h
  refine jGetR C 9 (by decide +kernel : decode cX11_law 6 = .ok (.getfield 16, 3)) rfl t_v0 kX11 4 (by decide) rfl rfl (by decide) wd_1158 e_a2 rfl (fun t_a2 => ?_)
  refine jB C [(.iconst 2, 1, 2)] 10 [(0, .ref (b + v0))] [.int 2, .ref (b + a2)] (by decide +kernel) rfl rfl ?_
  obtain ⟨y3, h⟩ := h
  refine jIald C 11 (by decide +kernel : decode cX11_law 10 = .ok (.iaload, 1)) rfl t_a2 y3 ?_
  refine jB C [(.bipush 6, 2, 6)] 13 [(0, .ref (b + v0))] [.int 6, .int (S1.1 a2 (2 : Int32).toNatClampNeg)] (by decide +kernel) rfl rfl ?_
  refine jIcmp_ne C 16 28 (by decide +kernel : decode cX11_law 13 = .ok (.if_icmp .ne 15, 3)) rfl rfl (fun c4 => ?_) (fun c4 => ?_)
  · have h := it2 h c4
    refine jB C [(.aload_n 0, 1, 0), (.iconst 0, 1, 0)] 30 [(0, .ref (b + v0))] [.int 0, .ref (b + v0)] (by decide +kernel) rfl rfl ?_
    refine jcV_V C 33 (rest := []) (ok_X11_beginText t_v0 h) (by decide +kernel : decode cX11_law 30 = .ok (.invokevirtual 407, 3)) rfl wd_1516 wd_1518 wp_119 wd_12 wd_1519 ⟨rfl, rfl⟩ hd_X11_beginText ⟨Nat.le_of_ble_eq_true rfl, Nat.le_of_ble_eq_true rfl⟩ t_v0 kX11 (by decide) rfl rfl rfl (Nat.le_of_ble_eq_true rfl) ⟨Nat.zero_le _, Nat.zero_le _⟩ (fun S5 h => ?_)
    refine jB C [(.aload_n 0, 1, 0)] 34 [(0, .ref (b + v0))] [.ref (b + v0)] (by decide +kernel) rfl rfl ?_
    refine jcV_V C 37 (rest := []) (ok_X11_readLaw t_v0 h) (by decide +kernel : decode cX11_law 34 = .ok (.invokevirtual 410, 3)) rfl wd_1538 wd_1540 wp_122 wd_12 wd_1541 ⟨rfl, rfl⟩ hd_X11_readLaw ⟨Nat.le_of_ble_eq_true rfl, Nat.le_of_ble_eq_true rfl⟩ t_v0 kX11 (by decide) rfl rfl rfl (Nat.le_of_ble_eq_true rfl) ⟨Nat.zero_le _, Nat.zero_le _⟩ (fun S6 h => ?_)
    refine jSub [0] rfl ?_
    exact j_X11_law_37 C hE t_v0 h
  · have h := it1 h c4
    refine jB C [(.aload_n 0, 1, 0), (.iconst 0, 1, 0)] 18 [(0, .ref (b + v0))] [.int 0, .ref (b + v0)] (by decide +kernel) rfl rfl ?_
    refine jPutI C 21 (by decide +kernel : decode cX11_law 18 = .ok (.putfield 259, 3)) rfl hE t_v0 kX11 14 (by decide) rfl rfl (by decide) rfl wd_1168 rfl rfl rfl ?_
    refine jTopS (fun S7 e_S7 => ?_)
    have h := h S7 e_S7
    refine jB C [(.aload_n 0, 1, 0), (.bipush (-5), 2, (-5))] 24 [(0, .ref (b + v0))] [.int (-5), .ref (b + v0)] (by decide +kernel) rfl rfl ?_
    refine jcV_I C 27 (rest := []) (ok_X11_tell t_v0 h) (by decide +kernel : decode cX11_law 24 = .ok (.invokevirtual 174, 3)) rfl wd_1340 wd_1342 wp_99 wd_12 wd_1343 ⟨rfl, rfl⟩ hd_X11_tell ⟨Nat.le_of_ble_eq_true rfl, Nat.le_of_ble_eq_true rfl⟩ t_v0 kX11 (by decide) rfl rfl rfl (Nat.le_of_ble_eq_true rfl) ⟨Nat.zero_le _, Nat.zero_le _⟩ (fun r9 S8 h => ?_)
    exact jRetI C (by decide +kernel : decode cX11_law 27 = .ok (.ireturn, 1)) (Nat.le_refl _) (Nat.le_refl _) ⟨rfl, h⟩
theorem ok_X11_law {G : Gm} {v0 : Nat} {S : St} {Q : Int32 → St → Prop}  (t_v0 : ok G 10 v0) (h : f_X11_law G v0 Q S) : MT yX11_law cX11_law 3 (some .int) rm_X11_law 0 0 (fun b => [.ref (b + v0)]) G S (QI (fun r G1 S1 => G1 = G ∧ Q r S1)) := MT.ofJ (by decide +kernel) (fun b => [(0, .ref (b + v0))]) (fun b => rfl) (fun b => Nat.le_of_ble_eq_true rfl) (fun l b D cy p e s m below meth c C hE hn => j_X11_law C hE t_v0 h)
theorem hd_X11_law : yX11_law.cls ≠ "java/lang/invoke/MethodHandle" ∧ yX11_law.cls ≠ "java/lang/invoke/VarHandle" ∧ (parseMethodDescriptor yX11_law.desc).map (fun d => d.parameters.length) = some 0 := by decide +kernel
abbrev rm_X11_lens : Room := { frames := 2, cells := 0, slots := 0, locals := 45 }
set_option maxHeartbeats 4000000 in
set_option maxRecDepth 100000 in
theorem j_X11_lens {p : Program} {l : Launch} {e : Env} {s : State} {m : MethodId} {args : Array Value} {below : List Frame} {meth : Method} {c : Code} {b : Nat} {D : va_G} {cy : Nat → ClassId} {G : Gm} {v0 : Nat} {v1 : Int32} {v2 : Int32} {S : St} {Q : Int32 → St → Prop} (C : CX p s m args meth c b D cy cX11_lens RX11 3 (some .int)) (hE : s.heap.size + 0 ≤ b + G.2.2) (t_v0 : ok G 10 v0) (h : f_X11_lens G v0 v1 v2 Q S) : J p l e rm_X11_lens s m args below meth c b D cy 3 (zI b D cy below args s G Q) 0 0 G S 0 [(0, .ref (b + v0)), (1, .int v1), (2, .int v2)] [] := by
  unfold f_X11_lens at h
  refine jB C [(.aload_n 0, 1, 0), (.iconst 0, 1, 0)] 2 [(0, .ref (b + v0)), (1, .int v1), (2, .int v2)] [.int 0, .ref (b + v0)] (by decide +kernel) rfl rfl ?_
  refine jPutI C 5 (by decide +kernel : decode cX11_lens 2 = .ok (.putfield 165, 3)) rfl hE t_v0 kX11 0 (by decide) rfl rfl (by decide) rfl wd_1154 rfl rfl rfl ?_
  refine jTopS (fun S1 e_S1 => ?_)
  have h := h S1 e_S1
  refine jB C [(.iload_n 1, 1, 0), (.i2l, 1, 0), (.lconst 0, 1, 0)] 8 [(0, .ref (b + v0)), (1, .int v1), (2, .int v2)] [.long 0, .long v1.toInt64] (by decide +kernel) rfl rfl ?_
  refine jLdc2 C 11 (by decide +kernel : decode cX11_lens 8 = .ok (.ldc2_w 245, 3)) rfl wd_1473 ?_
  refine jcS_I C 14 (rest := []) (ok_X11_in h) (by decide +kernel : decode cX11_lens 11 = .ok (.invokestatic 185, 3)) rfl wd_1352 wd_1353 wd_12 wd_1354 ⟨rfl, rfl⟩ hd_X11_in ⟨Nat.le_of_ble_eq_true rfl, Nat.le_of_ble_eq_true rfl⟩ rfl rfl (Nat.le_of_ble_eq_true rfl) ⟨Nat.zero_le _, Nat.zero_le _⟩ (fun r3 S2 h => ?_)
  refine jIf_eq C 17 39 (by decide +kernel : decode cX11_lens 14 = .ok (.ifCond .eq 25, 3)) rfl rfl (fun c4 => ?_) (fun c4 => ?_)
  · have h := it1 h c4
    refine jB C [(.iconst (-1), 1, (-1))] 40 [(0, .ref (b + v0)), (1, .int v1), (2, .int v2)] [.int (-1)] (by decide +kernel) rfl rfl ?_
    exact jRetI C (by decide +kernel : decode cX11_lens 40 = .ok (.ireturn, 1)) (Nat.le_refl _) (Nat.le_refl _) ⟨rfl, h⟩
  · have h := it2 h c4
    refine jB C [(.iload_n 2, 1, 0)] 18 [(0, .ref (b + v0)), (1, .int v1), (2, .int v2)] [.int v2] (by decide +kernel) rfl rfl ?_
    refine jcS_I C 21 (rest := []) (ok_X11_isSight h) (by decide +kernel : decode cX11_lens 18 = .ok (.invokestatic 247, 3)) rfl wd_1474 wd_1475 wd_12 wd_1476 ⟨rfl, rfl⟩ hd_X11_isSight ⟨Nat.le_of_ble_eq_true rfl, Nat.le_of_ble_eq_true rfl⟩ rfl rfl (Nat.le_of_ble_eq_true rfl) ⟨Nat.zero_le _, Nat.zero_le _⟩ (fun r6 S5 h => ?_)
    refine jIf_eq C 24 39 (by decide +kernel : decode cX11_lens 21 = .ok (.ifCond .eq 18, 3)) rfl rfl (fun c7 => ?_) (fun c7 => ?_)
    · have h := it1 h c7
      refine jB C [(.iconst (-1), 1, (-1))] 40 [(0, .ref (b + v0)), (1, .int v1), (2, .int v2)] [.int (-1)] (by decide +kernel) rfl rfl ?_
      exact jRetI C (by decide +kernel : decode cX11_lens 40 = .ok (.ireturn, 1)) (Nat.le_refl _) (Nat.le_refl _) ⟨rfl, h⟩
    · have h := it2 h c7
      refine jB C [(.aload_n 0, 1, 0)] 25 [(0, .ref (b + v0)), (1, .int v1), (2, .int v2)] [.ref (b + v0)] (by decide +kernel) rfl rfl ?_
      obtain ⟨a8, e_a8, h⟩ := h
      refine jGetR C 28 (by decide +kernel : decode cX11_lens 25 = .ok (.getfield 13, 3)) rfl t_v0 kX11 3 (by decide) rfl rfl (by decide) wd_1157 e_a8 rfl (fun t_a8 => ?_)
      refine jB C [(.sipush 256, 3, 256), (.iload_n 1, 1, 0), (.imul, 1, 0), (.iload_n 2, 1, 0), (.iadd, 1, 0)] 35 [(0, .ref (b + v0)), (1, .int v1), (2, .int v2)] [.int ((256 * v1) + v2), .ref (b + a8)] (by decide +kernel) rfl rfl ?_
      obtain ⟨y9, h⟩ := h
      refine jIald C 36 (by decide +kernel : decode cX11_lens 35 = .ok (.iaload, 1)) rfl t_a8 y9 ?_
      refine jGoto C 40 (by decide +kernel : decode cX11_lens 36 = .ok (.goto 4, 3)) rfl ?_
      exact jRetI C (by decide +kernel : decode cX11_lens 40 = .ok (.ireturn, 1)) (Nat.le_refl _) (Nat.le_refl _) ⟨rfl, h⟩
theorem ok_X11_lens {G : Gm} {v0 : Nat} {v1 : Int32} {v2 : Int32} {S : St} {Q : Int32 → St → Prop}  (t_v0 : ok G 10 v0) (h : f_X11_lens G v0 v1 v2 Q S) : MT yX11_lens cX11_lens 3 (some .int) rm_X11_lens 0 0 (fun b => [.ref (b + v0), .int v1, .int v2]) G S (QI (fun r G1 S1 => G1 = G ∧ Q r S1)) := MT.ofJ (by decide +kernel) (fun b => [(0, .ref (b + v0)), (1, .int v1), (2, .int v2)]) (fun b => rfl) (fun b => Nat.le_of_ble_eq_true rfl) (fun l b D cy p e s m below meth c C hE hn => j_X11_lens C hE t_v0 h)
theorem hd_X11_lens : yX11_lens.cls ≠ "java/lang/invoke/MethodHandle" ∧ yX11_lens.cls ≠ "java/lang/invoke/VarHandle" ∧ (parseMethodDescriptor yX11_lens.desc).map (fun d => d.parameters.length) = some 2 := by decide +kernel
abbrev rm_X11_mildest : Room := { frames := 7, cells := 0, slots := 0, locals := 165 }
set_option maxHeartbeats 4000000 in
set_option maxRecDepth 100000 in
theorem j_X11_mildest_134_n {p : Program} {l : Launch} {e : Env} {s : State} {m : MethodId} {args : Array Value} {below : List Frame} {meth : Method} {c : Code} {b : Nat} {D : va_G} {cy : Nat → ClassId} {G : Gm} {v0 : Nat} {v1 : Int32} {v2 : Int32} {v3 : Int32} {Q : Int32 → St → Prop} (C : CX p s m args meth c b D cy cX11_mildest RX11 7 (some .int)) (hE : s.heap.size + 0 ≤ b + G.2.2) (t_v0 : ok G 10 v0) : ∀ k (v4 : Int32) (v5 : Int32) S, f_X11_mildest_134_n G v0 v1 v2 v3 Q k v4 v5 S → J p l e rm_X11_mildest s m args below meth c b D cy 7 (zI b D cy below args s G Q) 0 0 G S 134 [(0, .ref (b + v0)), (1, .int v1), (2, .int v2), (3, .int v3), (4, .int v4), (5, .int v5)] [] := by
  intro k
  induction k with
  | zero => intro v4 v5 S h; exact h.elim
  | succ k ih =>
    intro v4 v5 S h
    unfold f_X11_mildest_134_n at h
    refine jB C [(.iload 5, 2, 0)] 136 [(0, .ref (b + v0)), (1, .int v1), (2, .int v2), (3, .int v3), (4, .int v4), (5, .int v5)] [.int v5] (by decide +kernel) rfl rfl ?_
    refine jIf_lt C 139 178 (by decide +kernel : decode cX11_mildest 136 = .ok (.ifCond .lt 42, 3)) rfl rfl (fun c1 => ?_) (fun c1 => ?_)
    · have h := it1 h c1
      refine jB C [(.iload 4, 2, 0)] 180 [(0, .ref (b + v0)), (1, .int v1), (2, .int v2), (3, .int v3), (4, .int v4), (5, .int v5)] [.int v4] (by decide +kernel) rfl rfl ?_
      exact jRetI C (by decide +kernel : decode cX11_mildest 180 = .ok (.ireturn, 1)) (Nat.le_refl _) (Nat.le_refl _) ⟨rfl, h⟩
    · have h := it2 h c1
      refine jB C [(.aload_n 0, 1, 0), (.iload_n 1, 1, 0), (.aload_n 0, 1, 0)] 142 [(0, .ref (b + v0)), (1, .int v1), (2, .int v2), (3, .int v3), (4, .int v4), (5, .int v5)] [.ref (b + v0), .int v1, .ref (b + v0)] (by decide +kernel) rfl rfl ?_
      obtain ⟨a2, e_a2, h⟩ := h
      refine jGetR C 145 (by decide +kernel : decode cX11_mildest 142 = .ok (.getfield 13, 3)) rfl t_v0 kX11 3 (by decide) rfl rfl (by decide) wd_1157 e_a2 rfl (fun t_a2 => ?_)
      refine jB C [(.sipush 256, 3, 256), (.iload 5, 2, 0), (.imul, 1, 0), (.iload_n 2, 1, 0), (.iadd, 1, 0)] 153 [(0, .ref (b + v0)), (1, .int v1), (2, .int v2), (3, .int v3), (4, .int v4), (5, .int v5)] [.int ((256 * v5) + v2), .ref (b + a2), .int v1, .ref (b + v0)] (by decide +kernel) rfl rfl ?_
      obtain ⟨y3, h⟩ := h
      refine jIald C 154 (by decide +kernel : decode cX11_mildest 153 = .ok (.iaload, 1)) rfl t_a2 y3 ?_
      refine jcV_I C 157 (rest := []) (ok_X11_doesOf t_v0 h) (by decide +kernel : decode cX11_mildest 154 = .ok (.invokevirtual 218, 3)) rfl wd_1394 wd_1396 wp_107 wd_12 wd_1397 ⟨rfl, rfl⟩ hd_X11_doesOf ⟨Nat.le_of_ble_eq_true rfl, Nat.le_of_ble_eq_true rfl⟩ t_v0 kX11 (by decide) rfl rfl rfl (Nat.le_of_ble_eq_true rfl) ⟨Nat.zero_le _, Nat.zero_le _⟩ (fun r5 S4 h => ?_)
      refine jB C [(.iload_n 3, 1, 0)] 158 [(0, .ref (b + v0)), (1, .int v1), (2, .int v2), (3, .int v3), (4, .int v4), (5, .int v5)] [.int v3, .int r5] (by decide +kernel) rfl rfl ?_
      refine jIcmp_ne C 161 168 (by decide +kernel : decode cX11_mildest 158 = .ok (.if_icmp .ne 10, 3)) rfl rfl (fun c6 => ?_) (fun c6 => ?_)
      · have h := it2 h c6
        refine jB C [(.iload 4, 2, 0), (.istore 4, 2, 0), (.iinc 5 (-1), 3, (-1))] 175 [(5, .int (v5 + (-1))), (4, .int v4), (0, .ref (b + v0)), (1, .int v1), (2, .int v2), (3, .int v3)] [] (by decide +kernel) rfl rfl ?_
        refine jGoto C 134 (by decide +kernel : decode cX11_mildest 175 = .ok (.goto (-41), 3)) rfl ?_
        refine jSub [2, 3, 4, 5, 1, 0] rfl ?_
        exact ih v4 (v5 + (-1)) S4 h
      · have h := it1 h c6
        refine jB C [(.iload 5, 2, 0), (.iconst 1, 1, 1), (.iadd, 1, 0)] 165 [(0, .ref (b + v0)), (1, .int v1), (2, .int v2), (3, .int v3), (4, .int v4), (5, .int v5)] [.int (v5 + 1)] (by decide +kernel) rfl rfl ?_
        refine jGoto C 170 (by decide +kernel : decode cX11_mildest 165 = .ok (.goto 5, 3)) rfl ?_
        refine jTopI (fun x7 e_x7 => ?_)
        have h := h x7 e_x7
        refine jB C [(.istore 4, 2, 0), (.iinc 5 (-1), 3, (-1))] 175 [(5, .int (v5 + (-1))), (4, .int x7), (0, .ref (b + v0)), (1, .int v1), (2, .int v2), (3, .int v3)] [] (by decide +kernel) rfl rfl ?_
        refine jGoto C 134 (by decide +kernel : decode cX11_mildest 175 = .ok (.goto (-41), 3)) rfl ?_
        refine jSub [2, 3, 4, 5, 1, 0] rfl ?_
        exact ih x7 (v5 + (-1)) S4 h
theorem j_X11_mildest_134 {p : Program} {l : Launch} {e : Env} {s : State} {m : MethodId} {args : Array Value} {below : List Frame} {meth : Method} {c : Code} {b : Nat} {D : va_G} {cy : Nat → ClassId} {G : Gm} {v0 : Nat} {v1 : Int32} {v2 : Int32} {v3 : Int32} {v4 : Int32} {v5 : Int32} {S : St} {Q : Int32 → St → Prop} (C : CX p s m args meth c b D cy cX11_mildest RX11 7 (some .int)) (hE : s.heap.size + 0 ≤ b + G.2.2) (t_v0 : ok G 10 v0) (h : f_X11_mildest_134 G v0 v1 v2 v3 Q v4 v5 S) : J p l e rm_X11_mildest s m args below meth c b D cy 7 (zI b D cy below args s G Q) 0 0 G S 134 [(0, .ref (b + v0)), (1, .int v1), (2, .int v2), (3, .int v3), (4, .int v4), (5, .int v5)] [] := by
  obtain ⟨k, h⟩ := h
  exact j_X11_mildest_134_n C hE t_v0 k v4 v5 S h
set_option maxHeartbeats 4000000 in
set_option maxRecDepth 100000 in
theorem j_X11_mildest_61_n {p : Program} {l : Launch} {e : Env} {s : State} {m : MethodId} {args : Array Value} {below : List Frame} {meth : Method} {c : Code} {b : Nat} {D : va_G} {cy : Nat → ClassId} {G : Gm} {k52 : Int32 → Int32 → St → Prop} {v0 : Nat} {v1 : Int32} {v2 : Int32} {v3 : Int32} {v5 : Int32} {Q : Int32 → St → Prop} (C : CX p s m args meth c b D cy cX11_mildest RX11 7 (some .int)) (hE : s.heap.size + 0 ≤ b + G.2.2) (t_v0 : ok G 10 v0) (hk52 : ∀ v4' v5' S, k52 v4' v5' S → J p l e rm_X11_mildest s m args below meth c b D cy 7 (zI b D cy below args s G Q) 0 0 G S 52 [(0, .ref (b + v0)), (1, .int v1), (2, .int v2), (3, .int v3), (4, .int (v4')), (5, .int (v5'))] []) : ∀ k (v4 : Int32) (v6 : Int32) S, f_X11_mildest_61_n G k52 v0 v1 v2 v3 v5 Q k v4 v6 S → J p l e rm_X11_mildest s m args below meth c b D cy 7 (zI b D cy below args s G Q) 0 0 G S 61 [(0, .ref (b + v0)), (1, .int v1), (2, .int v2), (3, .int v3), (4, .int v4), (5, .int v5), (6, .int v6)] [] := by
  intro k
  induction k with
  | zero => intro v4 v6 S h; exact h.elim
  | succ k ih =>
    intro v4 v6 S h
    unfold f_X11_mildest_61_n at h
    refine jB C [(.iload 6, 2, 0)] 63 [(0, .ref (b + v0)), (1, .int v1), (2, .int v2), (3, .int v3), (4, .int v4), (5, .int v5), (6, .int v6)] [.int v6] (by decide +kernel) rfl rfl ?_
    refine jIf_lt C 66 124 (by decide +kernel : decode cX11_mildest 63 = .ok (.ifCond .lt 61, 3)) rfl rfl (fun c1 => ?_) (fun c1 => ?_)
    · have h := it1 h c1
      refine jB C [(.iinc 5 (-1), 3, (-1))] 127 [(5, .int (v5 + (-1))), (0, .ref (b + v0)), (1, .int v1), (2, .int v2), (3, .int v3), (4, .int v4), (6, .int v6)] [] (by decide +kernel) rfl rfl ?_
      refine jGoto C 52 (by decide +kernel : decode cX11_mildest 127 = .ok (.goto (-75), 3)) rfl ?_
      refine jSub [1, 2, 3, 4, 5, 0] rfl ?_
      exact hk52 v4 (v5 + (-1)) S h
    · have h := it2 h c1
      refine jB C [(.aload_n 0, 1, 0), (.iload_n 1, 1, 0), (.aload_n 0, 1, 0)] 69 [(0, .ref (b + v0)), (1, .int v1), (2, .int v2), (3, .int v3), (4, .int v4), (5, .int v5), (6, .int v6)] [.ref (b + v0), .int v1, .ref (b + v0)] (by decide +kernel) rfl rfl ?_
      obtain ⟨a2, e_a2, h⟩ := h
      refine jGetR C 72 (by decide +kernel : decode cX11_mildest 69 = .ok (.getfield 13, 3)) rfl t_v0 kX11 3 (by decide) rfl rfl (by decide) wd_1157 e_a2 rfl (fun t_a2 => ?_)
      refine jB C [(.sipush 256, 3, 256), (.iload 6, 2, 0), (.imul, 1, 0), (.aload_n 0, 1, 0)] 79 [(0, .ref (b + v0)), (1, .int v1), (2, .int v2), (3, .int v3), (4, .int v4), (5, .int v5), (6, .int v6)] [.ref (b + v0), .int (256 * v6), .ref (b + a2), .int v1, .ref (b + v0)] (by decide +kernel) rfl rfl ?_
      obtain ⟨a3, e_a3, h⟩ := h
      refine jGetR C 82 (by decide +kernel : decode cX11_mildest 79 = .ok (.getfield 13, 3)) rfl t_v0 kX11 3 (by decide) rfl rfl (by decide) wd_1157 e_a3 rfl (fun t_a3 => ?_)
      refine jB C [(.sipush 256, 3, 256), (.iload 5, 2, 0), (.imul, 1, 0), (.iload_n 2, 1, 0), (.iadd, 1, 0)] 90 [(0, .ref (b + v0)), (1, .int v1), (2, .int v2), (3, .int v3), (4, .int v4), (5, .int v5), (6, .int v6)] [.int ((256 * v5) + v2), .ref (b + a3), .int (256 * v6), .ref (b + a2), .int v1, .ref (b + v0)] (by decide +kernel) rfl rfl ?_
      obtain ⟨y4, h⟩ := h
      refine jIald C 91 (by decide +kernel : decode cX11_mildest 90 = .ok (.iaload, 1)) rfl t_a3 y4 ?_
      refine jB C [(.iadd, 1, 0)] 92 [(0, .ref (b + v0)), (1, .int v1), (2, .int v2), (3, .int v3), (4, .int v4), (5, .int v5), (6, .int v6)] [.int ((256 * v6) + (S.1 a3 ((256 * v5) + v2).toNatClampNeg)), .ref (b + a2), .int v1, .ref (b + v0)] (by decide +kernel) rfl rfl ?_
      obtain ⟨y5, h⟩ := h
      refine jIald C 93 (by decide +kernel : decode cX11_mildest 92 = .ok (.iaload, 1)) rfl t_a2 y5 ?_
      refine jcV_I C 96 (rest := []) (ok_X11_doesOf t_v0 h) (by decide +kernel : decode cX11_mildest 93 = .ok (.invokevirtual 218, 3)) rfl wd_1394 wd_1396 wp_107 wd_12 wd_1397 ⟨rfl, rfl⟩ hd_X11_doesOf ⟨Nat.le_of_ble_eq_true rfl, Nat.le_of_ble_eq_true rfl⟩ t_v0 kX11 (by decide) rfl rfl rfl (Nat.le_of_ble_eq_true rfl) ⟨Nat.zero_le _, Nat.zero_le _⟩ (fun r7 S6 h => ?_)
      refine jB C [(.iload_n 3, 1, 0)] 97 [(0, .ref (b + v0)), (1, .int v1), (2, .int v2), (3, .int v3), (4, .int v4), (5, .int v5), (6, .int v6)] [.int v3, .int r7] (by decide +kernel) rfl rfl ?_
      refine jIcmp_ne C 100 114 (by decide +kernel : decode cX11_mildest 97 = .ok (.if_icmp .ne 17, 3)) rfl rfl (fun c8 => ?_) (fun c8 => ?_)
      · have h := it2 h c8
        refine jB C [(.iload 4, 2, 0), (.istore 4, 2, 0), (.iinc 6 (-1), 3, (-1))] 121 [(6, .int (v6 + (-1))), (4, .int v4), (0, .ref (b + v0)), (1, .int v1), (2, .int v2), (3, .int v3), (5, .int v5)] [] (by decide +kernel) rfl rfl ?_
        refine jGoto C 61 (by decide +kernel : decode cX11_mildest 121 = .ok (.goto (-60), 3)) rfl ?_
        refine jSub [2, 3, 4, 5, 1, 6, 0] rfl ?_
        exact ih v4 (v6 + (-1)) S6 h
      · have h := it1 h c8
        refine jB C [(.bipush 10, 2, 10), (.iload 5, 2, 0), (.imul, 1, 0), (.iload 6, 2, 0), (.iadd, 1, 0), (.bipush 11, 2, 11), (.iadd, 1, 0)] 111 [(0, .ref (b + v0)), (1, .int v1), (2, .int v2), (3, .int v3), (4, .int v4), (5, .int v5), (6, .int v6)] [.int (((10 * v5) + v6) + 11)] (by decide +kernel) rfl rfl ?_
        refine jGoto C 116 (by decide +kernel : decode cX11_mildest 111 = .ok (.goto 5, 3)) rfl ?_
        refine jTopI (fun x9 e_x9 => ?_)
        have h := h x9 e_x9
        refine jB C [(.istore 4, 2, 0), (.iinc 6 (-1), 3, (-1))] 121 [(6, .int (v6 + (-1))), (4, .int x9), (0, .ref (b + v0)), (1, .int v1), (2, .int v2), (3, .int v3), (5, .int v5)] [] (by decide +kernel) rfl rfl ?_
        refine jGoto C 61 (by decide +kernel : decode cX11_mildest 121 = .ok (.goto (-60), 3)) rfl ?_
        refine jSub [2, 3, 4, 5, 1, 6, 0] rfl ?_
        exact ih x9 (v6 + (-1)) S6 h
theorem j_X11_mildest_61 {p : Program} {l : Launch} {e : Env} {s : State} {m : MethodId} {args : Array Value} {below : List Frame} {meth : Method} {c : Code} {b : Nat} {D : va_G} {cy : Nat → ClassId} {G : Gm} {k52 : Int32 → Int32 → St → Prop} {v0 : Nat} {v1 : Int32} {v2 : Int32} {v3 : Int32} {v5 : Int32} {v4 : Int32} {v6 : Int32} {S : St} {Q : Int32 → St → Prop} (C : CX p s m args meth c b D cy cX11_mildest RX11 7 (some .int)) (hE : s.heap.size + 0 ≤ b + G.2.2) (t_v0 : ok G 10 v0) (hk52 : ∀ v4' v5' S, k52 v4' v5' S → J p l e rm_X11_mildest s m args below meth c b D cy 7 (zI b D cy below args s G Q) 0 0 G S 52 [(0, .ref (b + v0)), (1, .int v1), (2, .int v2), (3, .int v3), (4, .int (v4')), (5, .int (v5'))] []) (h : f_X11_mildest_61 G k52 v0 v1 v2 v3 v5 Q v4 v6 S) : J p l e rm_X11_mildest s m args below meth c b D cy 7 (zI b D cy below args s G Q) 0 0 G S 61 [(0, .ref (b + v0)), (1, .int v1), (2, .int v2), (3, .int v3), (4, .int v4), (5, .int v5), (6, .int v6)] [] := by
  obtain ⟨k, h⟩ := h
  exact j_X11_mildest_61_n C hE t_v0 hk52 k v4 v6 S h
set_option maxHeartbeats 4000000 in
set_option maxRecDepth 100000 in
theorem j_X11_mildest_52_n {p : Program} {l : Launch} {e : Env} {s : State} {m : MethodId} {args : Array Value} {below : List Frame} {meth : Method} {c : Code} {b : Nat} {D : va_G} {cy : Nat → ClassId} {G : Gm} {v0 : Nat} {v1 : Int32} {v2 : Int32} {v3 : Int32} {Q : Int32 → St → Prop} (C : CX p s m args meth c b D cy cX11_mildest RX11 7 (some .int)) (hE : s.heap.size + 0 ≤ b + G.2.2) (t_v0 : ok G 10 v0) : ∀ k (v4 : Int32) (v5 : Int32) S, f_X11_mildest_52_n G v0 v1 v2 v3 Q k v4 v5 S → J p l e rm_X11_mildest s m args below meth c b D cy 7 (zI b D cy below args s G Q) 0 0 G S 52 [(0, .ref (b + v0)), (1, .int v1), (2, .int v2), (3, .int v3), (4, .int v4), (5, .int v5)] [] := by
  intro k
  induction k with
  | zero => intro v4 v5 S h; exact h.elim
  | succ k ih =>
    intro v4 v5 S h
    unfold f_X11_mildest_52_n at h
    refine jB C [(.iload 5, 2, 0)] 54 [(0, .ref (b + v0)), (1, .int v1), (2, .int v2), (3, .int v3), (4, .int v4), (5, .int v5)] [.int v5] (by decide +kernel) rfl rfl ?_
    refine jIf_lt C 57 130 (by decide +kernel : decode cX11_mildest 54 = .ok (.ifCond .lt 76, 3)) rfl rfl (fun c1 => ?_) (fun c1 => ?_)
    · have h := it1 h c1
      refine jB C [(.bipush 7, 2, 7), (.istore 5, 2, 0)] 134 [(5, .int 7), (0, .ref (b + v0)), (1, .int v1), (2, .int v2), (3, .int v3), (4, .int v4)] [] (by decide +kernel) rfl rfl ?_
      refine jSub [1, 2, 3, 4, 5, 0] rfl ?_
      exact j_X11_mildest_134 C hE t_v0 h
    · have h := it2 h c1
      refine jB C [(.bipush 7, 2, 7), (.istore 6, 2, 0)] 61 [(6, .int 7), (0, .ref (b + v0)), (1, .int v1), (2, .int v2), (3, .int v3), (4, .int v4), (5, .int v5)] [] (by decide +kernel) rfl rfl ?_
      refine jSub [1, 2, 3, 4, 5, 6, 0] rfl ?_
      exact j_X11_mildest_61 C hE t_v0 ih h
theorem j_X11_mildest_52 {p : Program} {l : Launch} {e : Env} {s : State} {m : MethodId} {args : Array Value} {below : List Frame} {meth : Method} {c : Code} {b : Nat} {D : va_G} {cy : Nat → ClassId} {G : Gm} {v0 : Nat} {v1 : Int32} {v2 : Int32} {v3 : Int32} {v4 : Int32} {v5 : Int32} {S : St} {Q : Int32 → St → Prop} (C : CX p s m args meth c b D cy cX11_mildest RX11 7 (some .int)) (hE : s.heap.size + 0 ≤ b + G.2.2) (t_v0 : ok G 10 v0) (h : f_X11_mildest_52 G v0 v1 v2 v3 Q v4 v5 S) : J p l e rm_X11_mildest s m args below meth c b D cy 7 (zI b D cy below args s G Q) 0 0 G S 52 [(0, .ref (b + v0)), (1, .int v1), (2, .int v2), (3, .int v3), (4, .int v4), (5, .int v5)] [] := by
  obtain ⟨k, h⟩ := h
  exact j_X11_mildest_52_n C hE t_v0 k v4 v5 S h
set_option maxHeartbeats 4000000 in
set_option maxRecDepth 100000 in
theorem j_X11_mildest {p : Program} {l : Launch} {e : Env} {s : State} {m : MethodId} {args : Array Value} {below : List Frame} {meth : Method} {c : Code} {b : Nat} {D : va_G} {cy : Nat → ClassId} {G : Gm} {v0 : Nat} {v1 : Int32} {S : St} {Q : Int32 → St → Prop} (C : CX p s m args meth c b D cy cX11_mildest RX11 7 (some .int)) (hE : s.heap.size + 0 ≤ b + G.2.2) (t_v0 : ok G 10 v0) (h : f_X11_mildest G v0 v1 Q S) : J p l e rm_X11_mildest s m args below meth c b D cy 7 (zI b D cy below args s G Q) 0 0 G S 0 [(0, .ref (b + v0)), (1, .int v1)] [] := by
  unfold f_X11_mildest at h
  refine jB C [(.aload_n 0, 1, 0), (.iconst 0, 1, 0)] 2 [(0, .ref (b + v0)), (1, .int v1)] [.int 0, .ref (b + v0)] (by decide +kernel) rfl rfl ?_
  refine jPutI C 5 (by decide +kernel : decode cX11_mildest 2 = .ok (.putfield 165, 3)) rfl hE t_v0 kX11 0 (by decide) rfl rfl (by decide) rfl wd_1154 rfl rfl rfl ?_
  refine jTopS (fun S1 e_S1 => ?_)
  have h := h S1 e_S1
  refine jB C [(.aload_n 0, 1, 0), (.iload_n 1, 1, 0)] 7 [(0, .ref (b + v0)), (1, .int v1)] [.int v1, .ref (b + v0)] (by decide +kernel) rfl rfl ?_
  refine jcV_I C 10 (rest := []) (ok_X11_isPerson t_v0 h) (by decide +kernel : decode cX11_mildest 7 = .ok (.invokevirtual 209, 3)) rfl wd_1376 wd_1378 wp_103 wd_12 wd_1379 ⟨rfl, rfl⟩ hd_X11_isPerson ⟨Nat.le_of_ble_eq_true rfl, Nat.le_of_ble_eq_true rfl⟩ t_v0 kX11 (by decide) rfl rfl rfl (Nat.le_of_ble_eq_true rfl) ⟨Nat.zero_le _, Nat.zero_le _⟩ (fun r3 S2 h => ?_)
  refine jIf_ne C 13 15 (by decide +kernel : decode cX11_mildest 10 = .ok (.ifCond .ne 5, 3)) rfl rfl (fun c4 => ?_) (fun c4 => ?_)
  · have h := it2 h c4
    refine jB C [(.aload_n 0, 1, 0)] 16 [(0, .ref (b + v0)), (1, .int v1)] [.ref (b + v0)] (by decide +kernel) rfl rfl ?_
    obtain ⟨a5, e_a5, h⟩ := h
    refine jGetR C 19 (by decide +kernel : decode cX11_mildest 16 = .ok (.getfield 16, 3)) rfl t_v0 kX11 4 (by decide) rfl rfl (by decide) wd_1158 e_a5 rfl (fun t_a5 => ?_)
    refine jB C [(.bipush 7, 2, 7)] 21 [(0, .ref (b + v0)), (1, .int v1)] [.int 7, .ref (b + a5)] (by decide +kernel) rfl rfl ?_
    obtain ⟨y6, h⟩ := h
    refine jIald C 22 (by decide +kernel : decode cX11_mildest 21 = .ok (.iaload, 1)) rfl t_a5 y6 ?_
    refine jTopI (fun x7 e_x7 => ?_)
    have h := h x7 e_x7
    refine jB C [(.istore_n 2, 1, 0), (.aload_n 0, 1, 0)] 24 [(2, .int x7), (0, .ref (b + v0)), (1, .int v1)] [.ref (b + v0)] (by decide +kernel) rfl rfl ?_
    obtain ⟨a8, e_a8, h⟩ := h
    refine jGetR C 27 (by decide +kernel : decode cX11_mildest 24 = .ok (.getfield 16, 3)) rfl t_v0 kX11 4 (by decide) rfl rfl (by decide) wd_1158 e_a8 rfl (fun t_a8 => ?_)
    refine jB C [(.bipush 62, 2, 62), (.iload_n 1, 1, 0), (.iadd, 1, 0)] 31 [(2, .int x7), (0, .ref (b + v0)), (1, .int v1)] [.int (62 + v1), .ref (b + a8)] (by decide +kernel) rfl rfl ?_
    obtain ⟨y9, h⟩ := h
    refine jIald C 32 (by decide +kernel : decode cX11_mildest 31 = .ok (.iaload, 1)) rfl t_a8 y9 ?_
    refine jTopI (fun x10 e_x10 => ?_)
    have h := h x10 e_x10
    refine jB C [(.istore_n 3, 1, 0), (.aload_n 0, 1, 0), (.iload_n 1, 1, 0), (.iload_n 2, 1, 0)] 36 [(3, .int x10), (2, .int x7), (0, .ref (b + v0)), (1, .int v1)] [.int x7, .int v1, .ref (b + v0)] (by decide +kernel) rfl rfl ?_
    refine jcV_I C 39 (rest := []) (ok_X11_doesOf t_v0 h) (by decide +kernel : decode cX11_mildest 36 = .ok (.invokevirtual 218, 3)) rfl wd_1394 wd_1396 wp_107 wd_12 wd_1397 ⟨rfl, rfl⟩ hd_X11_doesOf ⟨Nat.le_of_ble_eq_true rfl, Nat.le_of_ble_eq_true rfl⟩ t_v0 kX11 (by decide) rfl rfl rfl (Nat.le_of_ble_eq_true rfl) ⟨Nat.zero_le _, Nat.zero_le _⟩ (fun r12 S11 h => ?_)
    refine jB C [(.iload_n 3, 1, 0)] 40 [(3, .int x10), (2, .int x7), (0, .ref (b + v0)), (1, .int v1)] [.int x10, .int r12] (by decide +kernel) rfl rfl ?_
    refine jIcmp_ne C 43 45 (by decide +kernel : decode cX11_mildest 40 = .ok (.if_icmp .ne 5, 3)) rfl rfl (fun c13 => ?_) (fun c13 => ?_)
    · have h := it2 h c13
      refine jB C [(.iconst (-1), 1, (-1)), (.istore 4, 2, 0), (.bipush 7, 2, 7), (.istore 5, 2, 0)] 52 [(5, .int 7), (4, .int (-1)), (3, .int x10), (2, .int x7), (0, .ref (b + v0)), (1, .int v1)] [] (by decide +kernel) rfl rfl ?_
      refine jSub [4, 5, 3, 2, 1, 0] rfl ?_
      exact j_X11_mildest_52 C hE t_v0 h
    · have h := it1 h c13
      refine jB C [(.iconst 0, 1, 0)] 44 [(3, .int x10), (2, .int x7), (0, .ref (b + v0)), (1, .int v1)] [.int 0] (by decide +kernel) rfl rfl ?_
      exact jRetI C (by decide +kernel : decode cX11_mildest 44 = .ok (.ireturn, 1)) (Nat.le_refl _) (Nat.le_refl _) ⟨rfl, h⟩
  · have h := it1 h c4
    refine jB C [(.iconst (-1), 1, (-1))] 14 [(0, .ref (b + v0)), (1, .int v1)] [.int (-1)] (by decide +kernel) rfl rfl ?_
    exact jRetI C (by decide +kernel : decode cX11_mildest 14 = .ok (.ireturn, 1)) (Nat.le_refl _) (Nat.le_refl _) ⟨rfl, h⟩
theorem ok_X11_mildest {G : Gm} {v0 : Nat} {v1 : Int32} {S : St} {Q : Int32 → St → Prop}  (t_v0 : ok G 10 v0) (h : f_X11_mildest G v0 v1 Q S) : MT yX11_mildest cX11_mildest 7 (some .int) rm_X11_mildest 0 0 (fun b => [.ref (b + v0), .int v1]) G S (QI (fun r G1 S1 => G1 = G ∧ Q r S1)) := MT.ofJ (by decide +kernel) (fun b => [(0, .ref (b + v0)), (1, .int v1)]) (fun b => rfl) (fun b => Nat.le_of_ble_eq_true rfl) (fun l b D cy p e s m below meth c C hE hn => j_X11_mildest C hE t_v0 h)
theorem hd_X11_mildest : yX11_mildest.cls ≠ "java/lang/invoke/MethodHandle" ∧ yX11_mildest.cls ≠ "java/lang/invoke/VarHandle" ∧ (parseMethodDescriptor yX11_mildest.desc).map (fun d => d.parameters.length) = some 1 := by decide +kernel
