abbrev rm_X7_wordAt : Room := { frames := 0, cells := 0, slots := 0, locals := 0 }
set_option maxHeartbeats 4000000 in
set_option maxRecDepth 100000 in
theorem j_X7_wordAt {p : Program} {l : Launch} {e : Env} {s : State} {m : MethodId} {args : Array Value} {below : List Frame} {meth : Method} {c : Code} {b : Nat} {D : va_G} {cy : Nat → ClassId} {G : Gm} {v0 : Nat} {v1 : Int32} {S : St} {Q : Int32 → St → Prop} (C : CX p s m args meth c b D cy cX7_wordAt RX7 2 (some .int)) (hE : s.heap.size + 0 ≤ b + G.2.2) (t_v0 : ok G 11 v0) (h : f_X7_wordAt G v0 v1 Q S) : J p l e rm_X7_wordAt s m args below meth c b D cy 2 (zI b D cy below args s G Q) 0 0 G S 0 [(0, .ref (b + v0)), (1, .int v1)] [] := by
  unfold f_X7_wordAt at h
  refine jB C [(.iload_n 1, 1, 0)] 1 [(0, .ref (b + v0)), (1, .int v1)] [.int v1] (by decide +kernel) rfl rfl ?_
  refine jIf_lt C 4 16 (by decide +kernel : decode cX7_wordAt 1 = .ok (.ifCond .lt 15, 3)) rfl rfl (fun c1 => ?_) (fun c1 => ?_)
  · have h := it1 h c1
    refine jB C [(.iconst (-1), 1, (-1))] 17 [(0, .ref (b + v0)), (1, .int v1)] [.int (-1)] (by decide +kernel) rfl rfl ?_
    exact jRetI C (by decide +kernel : decode cX7_wordAt 17 = .ok (.ireturn, 1)) (Nat.le_refl _) (Nat.le_refl _) ⟨rfl, h⟩
  · have h := it2 h c1
    refine jB C [(.iload_n 1, 1, 0), (.aload_n 0, 1, 0)] 6 [(0, .ref (b + v0)), (1, .int v1)] [.ref (b + v0), .int v1] (by decide +kernel) rfl rfl ?_
    refine jAlen11 C 7 (by decide +kernel : decode cX7_wordAt 6 = .ok (.arraylength, 1)) rfl t_v0 ?_
    refine jIcmp_ge C 10 16 (by decide +kernel : decode cX7_wordAt 7 = .ok (.if_icmp .ge 9, 3)) rfl rfl (fun c2 => ?_) (fun c2 => ?_)
    · have h := it1 h c2
      refine jB C [(.iconst (-1), 1, (-1))] 17 [(0, .ref (b + v0)), (1, .int v1)] [.int (-1)] (by decide +kernel) rfl rfl ?_
      exact jRetI C (by decide +kernel : decode cX7_wordAt 17 = .ok (.ireturn, 1)) (Nat.le_refl _) (Nat.le_refl _) ⟨rfl, h⟩
    · have h := it2 h c2
      refine jB C [(.aload_n 0, 1, 0), (.iload_n 1, 1, 0)] 12 [(0, .ref (b + v0)), (1, .int v1)] [.int v1, .ref (b + v0)] (by decide +kernel) rfl rfl ?_
      obtain ⟨y3, h⟩ := h
      refine jIald C 13 (by decide +kernel : decode cX7_wordAt 12 = .ok (.iaload, 1)) rfl t_v0 y3 ?_
      refine jGoto C 17 (by decide +kernel : decode cX7_wordAt 13 = .ok (.goto 4, 3)) rfl ?_
      exact jRetI C (by decide +kernel : decode cX7_wordAt 17 = .ok (.ireturn, 1)) (Nat.le_refl _) (Nat.le_refl _) ⟨rfl, h⟩
theorem ok_X7_wordAt {G : Gm} {v0 : Nat} {v1 : Int32} {S : St} {Q : Int32 → St → Prop}  (t_v0 : ok G 11 v0) (h : f_X7_wordAt G v0 v1 Q S) : MT yX7_wordAt cX7_wordAt 2 (some .int) rm_X7_wordAt 0 0 (fun b => [.ref (b + v0), .int v1]) G S (QI (fun r G1 S1 => G1 = G ∧ Q r S1)) := MT.ofJ (by decide +kernel) (fun b => [(0, .ref (b + v0)), (1, .int v1)]) (fun b => rfl) (fun b => Nat.le_of_ble_eq_true rfl) (fun l b D cy p e s m below meth c C hE hn => j_X7_wordAt C hE t_v0 h)
theorem hd_X7_wordAt : yX7_wordAt.cls ≠ "java/lang/invoke/MethodHandle" ∧ yX7_wordAt.cls ≠ "java/lang/invoke/VarHandle" ∧ (parseMethodDescriptor yX7_wordAt.desc).map (fun d => d.parameters.length) = some 2 := by decide +kernel
abbrev rm_X7_joined : Room := { frames := 0, cells := 0, slots := 0, locals := 0 }
set_option maxHeartbeats 4000000 in
set_option maxRecDepth 100000 in
theorem j_X7_joined {p : Program} {l : Launch} {e : Env} {s : State} {m : MethodId} {args : Array Value} {below : List Frame} {meth : Method} {c : Code} {b : Nat} {D : va_G} {cy : Nat → ClassId} {G : Gm} {v0 : Int32} {v1 : Int64} {v3 : Int64} {S : St} {Q : Int64 → St → Prop} (C : CX p s m args meth c b D cy cX7_joined RX7 5 (some .long)) (hE : s.heap.size + 0 ≤ b + G.2.2) (h : f_X7_joined G v0 v1 v3 Q S) : J p l e rm_X7_joined s m args below meth c b D cy 5 (zL b D cy below args s G Q) 0 0 G S 0 [(0, .int v0), (1, .long v1), (3, .long v3)] [] := by
  unfold f_X7_joined at h
  refine jB C [(.iload_n 0, 1, 0)] 1 [(0, .int v0), (1, .long v1), (3, .long v3)] [.int v0] (by decide +kernel) rfl rfl ?_
  by_cases c8_0 : v0 = 2
  · have h := it1 h c8_0
    refine jTabIn C 44 2 (by decide +kernel : decode cX7_joined 1 = .ok (.tableswitch 111 2 8 #[43, 47, 51, 55, 71, 87, 99], 43)) c8_0 ⟨rfl, rfl, rfl, rfl⟩ ?_
    refine jB C [(.lload_n 1, 1, 0), (.lload_n 3, 1, 0), (.ladd, 1, 0)] 47 [(0, .int v0), (1, .long v1), (3, .long v3)] [.long (v1 + v3)] (by decide +kernel) rfl rfl ?_
    exact jRetL C (by decide +kernel : decode cX7_joined 47 = .ok (.lreturn, 1)) (Nat.le_refl _) (Nat.le_refl _) ⟨rfl, h⟩
  · have h := it2 h c8_0
    by_cases c8_1 : v0 = 3
    · have h := it1 h c8_1
      refine jTabIn C 48 3 (by decide +kernel : decode cX7_joined 1 = .ok (.tableswitch 111 2 8 #[43, 47, 51, 55, 71, 87, 99], 43)) c8_1 ⟨rfl, rfl, rfl, rfl⟩ ?_
      refine jB C [(.lload_n 1, 1, 0), (.lload_n 3, 1, 0), (.lsub, 1, 0)] 51 [(0, .int v0), (1, .long v1), (3, .long v3)] [.long (v1 - v3)] (by decide +kernel) rfl rfl ?_
      exact jRetL C (by decide +kernel : decode cX7_joined 51 = .ok (.lreturn, 1)) (Nat.le_refl _) (Nat.le_refl _) ⟨rfl, h⟩
    · have h := it2 h c8_1
      by_cases c8_2 : v0 = 4
      · have h := it1 h c8_2
        refine jTabIn C 52 4 (by decide +kernel : decode cX7_joined 1 = .ok (.tableswitch 111 2 8 #[43, 47, 51, 55, 71, 87, 99], 43)) c8_2 ⟨rfl, rfl, rfl, rfl⟩ ?_
        refine jB C [(.lload_n 1, 1, 0), (.lload_n 3, 1, 0), (.lmul, 1, 0)] 55 [(0, .int v0), (1, .long v1), (3, .long v3)] [.long (v1 * v3)] (by decide +kernel) rfl rfl ?_
        exact jRetL C (by decide +kernel : decode cX7_joined 55 = .ok (.lreturn, 1)) (Nat.le_refl _) (Nat.le_refl _) ⟨rfl, h⟩
      · have h := it2 h c8_2
        by_cases c8_3 : v0 = 5
        · have h := it1 h c8_3
          refine jTabIn C 56 5 (by decide +kernel : decode cX7_joined 1 = .ok (.tableswitch 111 2 8 #[43, 47, 51, 55, 71, 87, 99], 43)) c8_3 ⟨rfl, rfl, rfl, rfl⟩ ?_
          refine jB C [(.lload_n 3, 1, 0), (.lconst 0, 1, 0), (.lcmp, 1, 0)] 59 [(0, .int v0), (1, .long v1), (3, .long v3)] [.int (lg_cmp v3 0)] (by decide +kernel) rfl rfl ?_
          refine jIf_ne C 62 68 (by decide +kernel : decode cX7_joined 59 = .ok (.ifCond .ne 9, 3)) rfl rfl (fun c1 => ?_) (fun c1 => ?_)
          · have h := it2 h c1
            refine jB C [(.lload_n 1, 1, 0), (.lload_n 3, 1, 0)] 70 [(0, .int v0), (1, .long v1), (3, .long v3)] [.long v3, .long v1] (by decide +kernel) rfl rfl ?_
            obtain ⟨y2, h⟩ := h
            refine jLdiv C 71 (by decide +kernel : decode cX7_joined 70 = .ok (.ldiv, 1)) rfl y2 ?_
            exact jRetL C (by decide +kernel : decode cX7_joined 71 = .ok (.lreturn, 1)) (Nat.le_refl _) (Nat.le_refl _) ⟨rfl, h⟩
          · have h := it1 h c1
            refine jLdc2 C 65 (by decide +kernel : decode cX7_joined 62 = .ok (.ldc2_w 34, 3)) rfl wd_481 ?_
            refine jGoto C 71 (by decide +kernel : decode cX7_joined 65 = .ok (.goto 6, 3)) rfl ?_
            exact jRetL C (by decide +kernel : decode cX7_joined 71 = .ok (.lreturn, 1)) (Nat.le_refl _) (Nat.le_refl _) ⟨rfl, h⟩
        · have h := it2 h c8_3
          by_cases c8_4 : v0 = 6
          · have h := it1 h c8_4
            refine jTabIn C 72 6 (by decide +kernel : decode cX7_joined 1 = .ok (.tableswitch 111 2 8 #[43, 47, 51, 55, 71, 87, 99], 43)) c8_4 ⟨rfl, rfl, rfl, rfl⟩ ?_
            refine jB C [(.lload_n 3, 1, 0), (.lconst 0, 1, 0), (.lcmp, 1, 0)] 75 [(0, .int v0), (1, .long v1), (3, .long v3)] [.int (lg_cmp v3 0)] (by decide +kernel) rfl rfl ?_
            refine jIf_ne C 78 84 (by decide +kernel : decode cX7_joined 75 = .ok (.ifCond .ne 9, 3)) rfl rfl (fun c3 => ?_) (fun c3 => ?_)
            · have h := it2 h c3
              refine jB C [(.lload_n 1, 1, 0), (.lload_n 3, 1, 0)] 86 [(0, .int v0), (1, .long v1), (3, .long v3)] [.long v3, .long v1] (by decide +kernel) rfl rfl ?_
              obtain ⟨y4, h⟩ := h
              refine jLrem C 87 (by decide +kernel : decode cX7_joined 86 = .ok (.lrem, 1)) rfl y4 ?_
              exact jRetL C (by decide +kernel : decode cX7_joined 87 = .ok (.lreturn, 1)) (Nat.le_refl _) (Nat.le_refl _) ⟨rfl, h⟩
            · have h := it1 h c3
              refine jLdc2 C 81 (by decide +kernel : decode cX7_joined 78 = .ok (.ldc2_w 34, 3)) rfl wd_481 ?_
              refine jGoto C 87 (by decide +kernel : decode cX7_joined 81 = .ok (.goto 6, 3)) rfl ?_
              exact jRetL C (by decide +kernel : decode cX7_joined 87 = .ok (.lreturn, 1)) (Nat.le_refl _) (Nat.le_refl _) ⟨rfl, h⟩
          · have h := it2 h c8_4
            by_cases c8_5 : v0 = 7
            · have h := it1 h c8_5
              refine jTabIn C 88 7 (by decide +kernel : decode cX7_joined 1 = .ok (.tableswitch 111 2 8 #[43, 47, 51, 55, 71, 87, 99], 43)) c8_5 ⟨rfl, rfl, rfl, rfl⟩ ?_
              refine jB C [(.lload_n 1, 1, 0), (.lload_n 3, 1, 0), (.lcmp, 1, 0)] 91 [(0, .int v0), (1, .long v1), (3, .long v3)] [.int (lg_cmp v1 v3)] (by decide +kernel) rfl rfl ?_
              refine jIf_ge C 94 98 (by decide +kernel : decode cX7_joined 91 = .ok (.ifCond .ge 7, 3)) rfl rfl (fun c5 => ?_) (fun c5 => ?_)
              · have h := it1 h c5
                refine jB C [(.lconst 0, 1, 0)] 99 [(0, .int v0), (1, .long v1), (3, .long v3)] [.long 0] (by decide +kernel) rfl rfl ?_
                exact jRetL C (by decide +kernel : decode cX7_joined 99 = .ok (.lreturn, 1)) (Nat.le_refl _) (Nat.le_refl _) ⟨rfl, h⟩
              · have h := it2 h c5
                refine jB C [(.lconst 1, 1, 0)] 95 [(0, .int v0), (1, .long v1), (3, .long v3)] [.long 1] (by decide +kernel) rfl rfl ?_
                refine jGoto C 99 (by decide +kernel : decode cX7_joined 95 = .ok (.goto 4, 3)) rfl ?_
                exact jRetL C (by decide +kernel : decode cX7_joined 99 = .ok (.lreturn, 1)) (Nat.le_refl _) (Nat.le_refl _) ⟨rfl, h⟩
            · have h := it2 h c8_5
              by_cases c8_6 : v0 = 8
              · have h := it1 h c8_6
                refine jTabIn C 100 8 (by decide +kernel : decode cX7_joined 1 = .ok (.tableswitch 111 2 8 #[43, 47, 51, 55, 71, 87, 99], 43)) c8_6 ⟨rfl, rfl, rfl, rfl⟩ ?_
                refine jB C [(.lload_n 1, 1, 0), (.lload_n 3, 1, 0), (.lcmp, 1, 0)] 103 [(0, .int v0), (1, .long v1), (3, .long v3)] [.int (lg_cmp v1 v3)] (by decide +kernel) rfl rfl ?_
                refine jIf_le C 106 110 (by decide +kernel : decode cX7_joined 103 = .ok (.ifCond .le 7, 3)) rfl rfl (fun c6 => ?_) (fun c6 => ?_)
                · have h := it1 h c6
                  refine jB C [(.lconst 0, 1, 0)] 111 [(0, .int v0), (1, .long v1), (3, .long v3)] [.long 0] (by decide +kernel) rfl rfl ?_
                  exact jRetL C (by decide +kernel : decode cX7_joined 111 = .ok (.lreturn, 1)) (Nat.le_refl _) (Nat.le_refl _) ⟨rfl, h⟩
                · have h := it2 h c6
                  refine jB C [(.lconst 1, 1, 0)] 107 [(0, .int v0), (1, .long v1), (3, .long v3)] [.long 1] (by decide +kernel) rfl rfl ?_
                  refine jGoto C 111 (by decide +kernel : decode cX7_joined 107 = .ok (.goto 4, 3)) rfl ?_
                  exact jRetL C (by decide +kernel : decode cX7_joined 111 = .ok (.lreturn, 1)) (Nat.le_refl _) (Nat.le_refl _) ⟨rfl, h⟩
              · have h := it2 h c8_6
                refine jTabOut C 112 (by decide +kernel : decode cX7_joined 1 = .ok (.tableswitch 111 2 8 #[43, 47, 51, 55, 71, 87, 99], 43)) rfl (by have := lv_neT c8_0 (a := 2) rfl; have := lv_neT c8_1 (a := 3) rfl; have := lv_neT c8_2 (a := 4) rfl; have := lv_neT c8_3 (a := 5) rfl; have := lv_neT c8_4 (a := 6) rfl; have := lv_neT c8_5 (a := 7) rfl; have := lv_neT c8_6 (a := 8) rfl; omega) ?_
                refine jB C [(.lload_n 1, 1, 0), (.lload_n 3, 1, 0), (.lcmp, 1, 0)] 115 [(0, .int v0), (1, .long v1), (3, .long v3)] [.int (lg_cmp v1 v3)] (by decide +kernel) rfl rfl ?_
                refine jIf_ne C 118 122 (by decide +kernel : decode cX7_joined 115 = .ok (.ifCond .ne 7, 3)) rfl rfl (fun c7 => ?_) (fun c7 => ?_)
                · have h := it2 h c7
                  refine jB C [(.lconst 0, 1, 0)] 123 [(0, .int v0), (1, .long v1), (3, .long v3)] [.long 0] (by decide +kernel) rfl rfl ?_
                  exact jRetL C (by decide +kernel : decode cX7_joined 123 = .ok (.lreturn, 1)) (Nat.le_refl _) (Nat.le_refl _) ⟨rfl, h⟩
                · have h := it1 h c7
                  refine jB C [(.lconst 1, 1, 0)] 119 [(0, .int v0), (1, .long v1), (3, .long v3)] [.long 1] (by decide +kernel) rfl rfl ?_
                  refine jGoto C 123 (by decide +kernel : decode cX7_joined 119 = .ok (.goto 4, 3)) rfl ?_
                  exact jRetL C (by decide +kernel : decode cX7_joined 123 = .ok (.lreturn, 1)) (Nat.le_refl _) (Nat.le_refl _) ⟨rfl, h⟩
theorem ok_X7_joined {G : Gm} {v0 : Int32} {v1 : Int64} {v3 : Int64} {S : St} {Q : Int64 → St → Prop}  (h : f_X7_joined G v0 v1 v3 Q S) : MT yX7_joined cX7_joined 5 (some .long) rm_X7_joined 0 0 (fun b => [.int v0, .long v1, .long v3]) G S (QL (fun r G1 S1 => G1 = G ∧ Q r S1)) := MT.ofJ (by decide +kernel) (fun b => [(0, .int v0), (1, .long v1), (3, .long v3)]) (fun b => rfl) (fun b => Nat.le_of_ble_eq_true rfl) (fun l b D cy p e s m below meth c C hE hn => j_X7_joined C hE h)
theorem hd_X7_joined : yX7_joined.cls ≠ "java/lang/invoke/MethodHandle" ∧ yX7_joined.cls ≠ "java/lang/invoke/VarHandle" ∧ (parseMethodDescriptor yX7_joined.desc).map (fun d => d.parameters.length) = some 3 := by decide +kernel
abbrev rm_X7_worth : Room := { frames := 1, cells := 0, slots := 0, locals := 24 }
set_option maxHeartbeats 4000000 in
set_option maxRecDepth 100000 in
theorem j_X7_worth_325 {p : Program} {l : Launch} {e : Env} {s : State} {m : MethodId} {args : Array Value} {below : List Frame} {meth : Method} {c : Code} {b : Nat} {D : va_G} {cy : Nat → ClassId} {G : Gm} {v0 : Nat} {v6 : Int32} {S : St} {Q : Int32 → St → Prop} (C : CX p s m args meth c b D cy cX7_worth RX7 12 (some .int)) (hE : s.heap.size + 0 ≤ b + G.2.2) (t_v0 : ok G 6 v0) (h : f_X7_worth_325 G v0 v6 Q S) : J p l e rm_X7_worth s m args below meth c b D cy 12 (zI b D cy below args s G Q) 0 0 G S 325 [(0, .ref (b + v0)), (6, .int v6)] [] := by
  unfold f_X7_worth_325 at h
  refine jB C [(.iload 6, 2, 0), (.iconst 1, 1, 1)] 328 [(0, .ref (b + v0)), (6, .int v6)] [.int 1, .int v6] (by decide +kernel) rfl rfl ?_
  refine jIcmp_ne C 331 341 (by decide +kernel : decode cX7_worth 328 = .ok (.if_icmp .ne 13, 3)) rfl rfl (fun c1 => ?_) (fun c1 => ?_)
  · have h := it2 h c1
    refine jLdc C 343 (by decide +kernel : decode cX7_worth 341 = .ok (.ldc 21, 2)) rfl wd_474 ?_
    exact jRetI C (by decide +kernel : decode cX7_worth 343 = .ok (.ireturn, 1)) (Nat.le_refl _) (Nat.le_refl _) ⟨rfl, h⟩
  · have h := it1 h c1
    refine jB C [(.aload_n 0, 1, 0)] 332 [(0, .ref (b + v0)), (6, .int v6)] [.ref (b + v0)] (by decide +kernel) rfl rfl ?_
    obtain ⟨a2, e_a2, h⟩ := h
    refine jGetR C 335 (by decide +kernel : decode cX7_worth 332 = .ok (.getfield 11, 3)) rfl t_v0 kX7 0 (by decide) rfl rfl (by decide) wd_112 e_a2 rfl (fun t_a2 => ?_)
    refine jB C [(.iconst 0, 1, 0)] 336 [(0, .ref (b + v0)), (6, .int v6)] [.int 0, .ref (b + a2)] (by decide +kernel) rfl rfl ?_
    obtain ⟨y3, h⟩ := h
    refine jLald C 337 (by decide +kernel : decode cX7_worth 336 = .ok (.laload, 1)) rfl t_a2 y3 ?_
    refine jB C [(.l2i, 1, 0)] 338 [(0, .ref (b + v0)), (6, .int v6)] [.int ((S.2.1 a2 (0 : Int32).toNatClampNeg).toInt32)] (by decide +kernel) rfl rfl ?_
    refine jGoto C 343 (by decide +kernel : decode cX7_worth 338 = .ok (.goto 5, 3)) rfl ?_
    exact jRetI C (by decide +kernel : decode cX7_worth 343 = .ok (.ireturn, 1)) (Nat.le_refl _) (Nat.le_refl _) ⟨rfl, h⟩
set_option maxHeartbeats 4000000 in
set_option maxRecDepth 100000 in
theorem j_X7_worth_316 {p : Program} {l : Launch} {e : Env} {s : State} {m : MethodId} {args : Array Value} {below : List Frame} {meth : Method} {c : Code} {b : Nat} {D : va_G} {cy : Nat → ClassId} {G : Gm} {k15 : Int32 → Int32 → Int32 → St → Prop} {v0 : Nat} {v3 : Int32} {v4 : Nat} {v5 : Nat} {S : St} {Q : Int32 → St → Prop} (C : CX p s m args meth c b D cy cX7_worth RX7 12 (some .int)) (hE : s.heap.size + 0 ≤ b + G.2.2) (hk15 : ∀ v6' v7' v8' S, k15 v6' v7' v8' S → J p l e rm_X7_worth s m args below meth c b D cy 12 (zI b D cy below args s G Q) 0 0 G S 15 [(0, .ref (b + v0)), (3, .int v3), (4, .ref (b + v4)), (5, .ref (b + v5)), (6, .int (v6')), (7, .int (v7')), (8, .int (v8'))] []) (h : f_X7_worth_316 G k15 Q S) : J p l e rm_X7_worth s m args below meth c b D cy 12 (zI b D cy below args s G Q) 0 0 G S 316 [] [] := by
  unfold f_X7_worth_316 at h
  refine jLdc C 318 (by decide +kernel : decode cX7_worth 316 = .ok (.ldc 21, 2)) rfl wd_474 ?_
  exact jRetI C (by decide +kernel : decode cX7_worth 318 = .ok (.ireturn, 1)) (Nat.le_refl _) (Nat.le_refl _) ⟨rfl, h⟩
set_option maxHeartbeats 4000000 in
set_option maxRecDepth 100000 in
theorem j_X7_worth_221 {p : Program} {l : Launch} {e : Env} {s : State} {m : MethodId} {args : Array Value} {below : List Frame} {meth : Method} {c : Code} {b : Nat} {D : va_G} {cy : Nat → ClassId} {G : Gm} {k15 : Int32 → Int32 → Int32 → St → Prop} {v0 : Nat} {v3 : Int32} {v4 : Nat} {v5 : Nat} {v6 : Int32} {v8 : Int32} {v11 : Int32} {u0 : Int32} {S : St} {Q : Int32 → St → Prop} (C : CX p s m args meth c b D cy cX7_worth RX7 12 (some .int)) (hE : s.heap.size + 0 ≤ b + G.2.2) (t_v0 : ok G 6 v0) (t_v4 : ok G 11 v4) (t_v5 : ok G 11 v5) (hk15 : ∀ v6' v7' v8' S, k15 v6' v7' v8' S → J p l e rm_X7_worth s m args below meth c b D cy 12 (zI b D cy below args s G Q) 0 0 G S 15 [(0, .ref (b + v0)), (3, .int v3), (4, .ref (b + v4)), (5, .ref (b + v5)), (6, .int (v6')), (7, .int (v7')), (8, .int (v8'))] []) (h : f_X7_worth_221 G k15 v0 v3 v4 v5 v6 v8 v11 u0 Q S) : J p l e rm_X7_worth s m args below meth c b D cy 12 (zI b D cy below args s G Q) 0 0 G S 221 [(0, .ref (b + v0)), (3, .int v3), (4, .ref (b + v4)), (5, .ref (b + v5)), (6, .int v6), (8, .int v8), (11, .int v11)] [.int u0] := by
  unfold f_X7_worth_221 at h
  refine jB C [(.istore 7, 2, 0), (.iload 11, 2, 0)] 225 [(7, .int u0), (0, .ref (b + v0)), (3, .int v3), (4, .ref (b + v4)), (5, .ref (b + v5)), (6, .int v6), (8, .int v8), (11, .int v11)] [.int v11] (by decide +kernel) rfl rfl ?_
  refine jIf_eq C 228 233 (by decide +kernel : decode cX7_worth 225 = .ok (.ifCond .eq 8, 3)) rfl rfl (fun c1 => ?_) (fun c1 => ?_)
  · have h := it1 h c1
    refine jB C [(.iload 6, 2, 0), (.iconst 1, 1, 1), (.isub, 1, 0)] 237 [(7, .int u0), (0, .ref (b + v0)), (3, .int v3), (4, .ref (b + v4)), (5, .ref (b + v5)), (6, .int v6), (8, .int v8), (11, .int v11)] [.int (v6 - 1)] (by decide +kernel) rfl rfl ?_
    refine jTopI (fun x2 e_x2 => ?_)
    have h := h x2 e_x2
    refine jB C [(.istore 6, 2, 0)] 239 [(6, .int x2), (7, .int u0), (0, .ref (b + v0)), (3, .int v3), (4, .ref (b + v4)), (5, .ref (b + v5)), (8, .int v8), (11, .int v11)] [] (by decide +kernel) rfl rfl ?_
    refine jGoto C 319 (by decide +kernel : decode cX7_worth 239 = .ok (.goto 80, 3)) rfl ?_
    refine jB C [(.iinc 8 1, 3, 1)] 322 [(8, .int (v8 + 1)), (6, .int x2), (7, .int u0), (0, .ref (b + v0)), (3, .int v3), (4, .ref (b + v4)), (5, .ref (b + v5)), (11, .int v11)] [] (by decide +kernel) rfl rfl ?_
    refine jGoto C 15 (by decide +kernel : decode cX7_worth 322 = .ok (.goto (-307), 3)) rfl ?_
    refine jSub [3, 4, 5, 6, 1, 2, 0] rfl ?_
    exact hk15 x2 u0 (v8 + 1) S h
  · have h := it2 h c1
    refine jB C [(.iload 6, 2, 0)] 230 [(7, .int u0), (0, .ref (b + v0)), (3, .int v3), (4, .ref (b + v4)), (5, .ref (b + v5)), (6, .int v6), (8, .int v8), (11, .int v11)] [.int v6] (by decide +kernel) rfl rfl ?_
    refine jGoto C 237 (by decide +kernel : decode cX7_worth 230 = .ok (.goto 7, 3)) rfl ?_
    refine jB C [(.istore 6, 2, 0)] 239 [(6, .int v6), (7, .int u0), (0, .ref (b + v0)), (3, .int v3), (4, .ref (b + v4)), (5, .ref (b + v5)), (8, .int v8), (11, .int v11)] [] (by decide +kernel) rfl rfl ?_
    refine jGoto C 319 (by decide +kernel : decode cX7_worth 239 = .ok (.goto 80, 3)) rfl ?_
    refine jB C [(.iinc 8 1, 3, 1)] 322 [(8, .int (v8 + 1)), (6, .int v6), (7, .int u0), (0, .ref (b + v0)), (3, .int v3), (4, .ref (b + v4)), (5, .ref (b + v5)), (11, .int v11)] [] (by decide +kernel) rfl rfl ?_
    refine jGoto C 15 (by decide +kernel : decode cX7_worth 322 = .ok (.goto (-307), 3)) rfl ?_
    refine jSub [3, 4, 5, 6, 1, 2, 0] rfl ?_
    exact hk15 v6 u0 (v8 + 1) S h
set_option maxHeartbeats 4000000 in
set_option maxRecDepth 100000 in
theorem j_X7_worth_207 {p : Program} {l : Launch} {e : Env} {s : State} {m : MethodId} {args : Array Value} {below : List Frame} {meth : Method} {c : Code} {b : Nat} {D : va_G} {cy : Nat → ClassId} {G : Gm} {k15 : Int32 → Int32 → Int32 → St → Prop} {v0 : Nat} {v3 : Int32} {v4 : Nat} {v5 : Nat} {v6 : Int32} {v7 : Int32} {v8 : Int32} {v10 : Int32} {u0 : Int32} {S : St} {Q : Int32 → St → Prop} (C : CX p s m args meth c b D cy cX7_worth RX7 12 (some .int)) (hE : s.heap.size + 0 ≤ b + G.2.2) (t_v0 : ok G 6 v0) (t_v4 : ok G 11 v4) (t_v5 : ok G 11 v5) (hk15 : ∀ v6' v7' v8' S, k15 v6' v7' v8' S → J p l e rm_X7_worth s m args below meth c b D cy 12 (zI b D cy below args s G Q) 0 0 G S 15 [(0, .ref (b + v0)), (3, .int v3), (4, .ref (b + v4)), (5, .ref (b + v5)), (6, .int (v6')), (7, .int (v7')), (8, .int (v8'))] []) (h : f_X7_worth_207 G k15 v0 v3 v4 v5 v6 v7 v8 v10 u0 Q S) : J p l e rm_X7_worth s m args below meth c b D cy 12 (zI b D cy below args s G Q) 0 0 G S 207 [(0, .ref (b + v0)), (3, .int v3), (4, .ref (b + v4)), (5, .ref (b + v5)), (6, .int v6), (7, .int v7), (8, .int v8), (10, .int v10)] [.int u0] := by
  unfold f_X7_worth_207 at h
  refine jB C [(.istore 11, 2, 0), (.iload 11, 2, 0)] 211 [(11, .int u0), (0, .ref (b + v0)), (3, .int v3), (4, .ref (b + v4)), (5, .ref (b + v5)), (6, .int v6), (7, .int v7), (8, .int v8), (10, .int v10)] [.int u0] (by decide +kernel) rfl rfl ?_
  refine jIf_eq C 214 219 (by decide +kernel : decode cX7_worth 211 = .ok (.ifCond .eq 8, 3)) rfl rfl (fun c1 => ?_) (fun c1 => ?_)
  · have h := it1 h c1
    refine jB C [(.iload 7, 2, 0)] 221 [(11, .int u0), (0, .ref (b + v0)), (3, .int v3), (4, .ref (b + v4)), (5, .ref (b + v5)), (6, .int v6), (7, .int v7), (8, .int v8), (10, .int v10)] [.int v7] (by decide +kernel) rfl rfl ?_
    refine jSub [1, 2, 3, 4, 5, 7, 0] rfl ?_
    exact j_X7_worth_221 C hE t_v0 t_v4 t_v5 hk15 h
  · have h := it2 h c1
    refine jB C [(.iload 10, 2, 0)] 216 [(11, .int u0), (0, .ref (b + v0)), (3, .int v3), (4, .ref (b + v4)), (5, .ref (b + v5)), (6, .int v6), (7, .int v7), (8, .int v8), (10, .int v10)] [.int v10] (by decide +kernel) rfl rfl ?_
    refine jGoto C 221 (by decide +kernel : decode cX7_worth 216 = .ok (.goto 5, 3)) rfl ?_
    refine jSub [1, 2, 3, 4, 5, 7, 0] rfl ?_
    exact j_X7_worth_221 C hE t_v0 t_v4 t_v5 hk15 h
set_option maxHeartbeats 4000000 in
set_option maxRecDepth 100000 in
theorem j_X7_worth_197 {p : Program} {l : Launch} {e : Env} {s : State} {m : MethodId} {args : Array Value} {below : List Frame} {meth : Method} {c : Code} {b : Nat} {D : va_G} {cy : Nat → ClassId} {G : Gm} {k15 : Int32 → Int32 → Int32 → St → Prop} {v0 : Nat} {v3 : Int32} {v4 : Nat} {v5 : Nat} {v6 : Int32} {v7 : Int32} {v8 : Int32} {v10 : Int32} {u0 : Int32} {u1 : Int64} {S : St} {Q : Int32 → St → Prop} (C : CX p s m args meth c b D cy cX7_worth RX7 12 (some .int)) (hE : s.heap.size + 0 ≤ b + G.2.2) (t_v0 : ok G 6 v0) (t_v4 : ok G 11 v4) (t_v5 : ok G 11 v5) (hk15 : ∀ v6' v7' v8' S, k15 v6' v7' v8' S → J p l e rm_X7_worth s m args below meth c b D cy 12 (zI b D cy below args s G Q) 0 0 G S 15 [(0, .ref (b + v0)), (3, .int v3), (4, .ref (b + v4)), (5, .ref (b + v5)), (6, .int (v6')), (7, .int (v7')), (8, .int (v8'))] []) (h : f_X7_worth_197 G k15 v0 v3 v4 v5 v6 v7 v8 v10 u0 u1 Q S) : J p l e rm_X7_worth s m args below meth c b D cy 12 (zI b D cy below args s G Q) 0 0 G S 197 [(0, .ref (b + v0)), (3, .int v3), (4, .ref (b + v4)), (5, .ref (b + v5)), (6, .int v6), (7, .int v7), (8, .int v8), (10, .int v10)] [.int u0, .long u1] := by
  unfold f_X7_worth_197 at h
  refine jB C [(.i2l, 1, 0), (.lcmp, 1, 0)] 199 [(0, .ref (b + v0)), (3, .int v3), (4, .ref (b + v4)), (5, .ref (b + v5)), (6, .int v6), (7, .int v7), (8, .int v8), (10, .int v10)] [.int (lg_cmp u1 u0.toInt64)] (by decide +kernel) rfl rfl ?_
  refine jIf_ne C 202 206 (by decide +kernel : decode cX7_worth 199 = .ok (.ifCond .ne 7, 3)) rfl rfl (fun c1 => ?_) (fun c1 => ?_)
  · have h := it2 h c1
    refine jB C [(.iconst 0, 1, 0)] 207 [(0, .ref (b + v0)), (3, .int v3), (4, .ref (b + v4)), (5, .ref (b + v5)), (6, .int v6), (7, .int v7), (8, .int v8), (10, .int v10)] [.int 0] (by decide +kernel) rfl rfl ?_
    refine jSub [0, 1, 2, 3, 4, 5, 6, 7] rfl ?_
    exact j_X7_worth_207 C hE t_v0 t_v4 t_v5 hk15 h
  · have h := it1 h c1
    refine jB C [(.iconst 1, 1, 1)] 203 [(0, .ref (b + v0)), (3, .int v3), (4, .ref (b + v4)), (5, .ref (b + v5)), (6, .int v6), (7, .int v7), (8, .int v8), (10, .int v10)] [.int 1] (by decide +kernel) rfl rfl ?_
    refine jGoto C 207 (by decide +kernel : decode cX7_worth 203 = .ok (.goto 4, 3)) rfl ?_
    refine jSub [0, 1, 2, 3, 4, 5, 6, 7] rfl ?_
    exact j_X7_worth_207 C hE t_v0 t_v4 t_v5 hk15 h
set_option maxHeartbeats 4000000 in
set_option maxRecDepth 100000 in
theorem j_X7_worth_176 {p : Program} {l : Launch} {e : Env} {s : State} {m : MethodId} {args : Array Value} {below : List Frame} {meth : Method} {c : Code} {b : Nat} {D : va_G} {cy : Nat → ClassId} {G : Gm} {k15 : Int32 → Int32 → Int32 → St → Prop} {v0 : Nat} {v3 : Int32} {v4 : Nat} {v5 : Nat} {v6 : Int32} {v7 : Int32} {v8 : Int32} {v9 : Int32} {v10 : Int32} {S : St} {Q : Int32 → St → Prop} (C : CX p s m args meth c b D cy cX7_worth RX7 12 (some .int)) (hE : s.heap.size + 0 ≤ b + G.2.2) (t_v0 : ok G 6 v0) (t_v4 : ok G 11 v4) (t_v5 : ok G 11 v5) (hk15 : ∀ v6' v7' v8' S, k15 v6' v7' v8' S → J p l e rm_X7_worth s m args below meth c b D cy 12 (zI b D cy below args s G Q) 0 0 G S 15 [(0, .ref (b + v0)), (3, .int v3), (4, .ref (b + v4)), (5, .ref (b + v5)), (6, .int (v6')), (7, .int (v7')), (8, .int (v8'))] []) (h : f_X7_worth_176 G k15 v0 v3 v4 v5 v6 v7 v8 v9 v10 Q S) : J p l e rm_X7_worth s m args below meth c b D cy 12 (zI b D cy below args s G Q) 0 0 G S 176 [(0, .ref (b + v0)), (3, .int v3), (4, .ref (b + v4)), (5, .ref (b + v5)), (6, .int v6), (7, .int v7), (8, .int v8), (9, .int v9), (10, .int v10)] [] := by
  unfold f_X7_worth_176 at h
  refine jB C [(.aload_n 0, 1, 0)] 177 [(0, .ref (b + v0)), (3, .int v3), (4, .ref (b + v4)), (5, .ref (b + v5)), (6, .int v6), (7, .int v7), (8, .int v8), (9, .int v9), (10, .int v10)] [.ref (b + v0)] (by decide +kernel) rfl rfl ?_
  obtain ⟨a1, e_a1, h⟩ := h
  refine jGetR C 180 (by decide +kernel : decode cX7_worth 177 = .ok (.getfield 11, 3)) rfl t_v0 kX7 0 (by decide) rfl rfl (by decide) wd_112 e_a1 rfl (fun t_a1 => ?_)
  refine jB C [(.iload 6, 2, 0), (.iconst 1, 1, 1), (.isub, 1, 0)] 184 [(0, .ref (b + v0)), (3, .int v3), (4, .ref (b + v4)), (5, .ref (b + v5)), (6, .int v6), (7, .int v7), (8, .int v8), (9, .int v9), (10, .int v10)] [.int (v6 - 1), .ref (b + a1)] (by decide +kernel) rfl rfl ?_
  obtain ⟨y2, h⟩ := h
  refine jLald C 185 (by decide +kernel : decode cX7_worth 184 = .ok (.laload, 1)) rfl t_a1 y2 ?_
  refine jB C [(.iload 9, 2, 0), (.bipush 11, 2, 11)] 189 [(0, .ref (b + v0)), (3, .int v3), (4, .ref (b + v4)), (5, .ref (b + v5)), (6, .int v6), (7, .int v7), (8, .int v8), (9, .int v9), (10, .int v10)] [.int 11, .int v9, .long (S.2.1 a1 (v6 - 1).toNatClampNeg)] (by decide +kernel) rfl rfl ?_
  refine jIcmp_ne C 192 196 (by decide +kernel : decode cX7_worth 189 = .ok (.if_icmp .ne 7, 3)) rfl rfl (fun c3 => ?_) (fun c3 => ?_)
  · have h := it2 h c3
    refine jB C [(.iconst 0, 1, 0)] 197 [(0, .ref (b + v0)), (3, .int v3), (4, .ref (b + v4)), (5, .ref (b + v5)), (6, .int v6), (7, .int v7), (8, .int v8), (9, .int v9), (10, .int v10)] [.int 0, .long (S.2.1 a1 (v6 - 1).toNatClampNeg)] (by decide +kernel) rfl rfl ?_
    refine jSub [0, 1, 2, 3, 4, 5, 6, 8] rfl ?_
    exact j_X7_worth_197 C hE t_v0 t_v4 t_v5 hk15 h
  · have h := it1 h c3
    refine jB C [(.iconst 1, 1, 1)] 193 [(0, .ref (b + v0)), (3, .int v3), (4, .ref (b + v4)), (5, .ref (b + v5)), (6, .int v6), (7, .int v7), (8, .int v8), (9, .int v9), (10, .int v10)] [.int 1, .long (S.2.1 a1 (v6 - 1).toNatClampNeg)] (by decide +kernel) rfl rfl ?_
    refine jGoto C 197 (by decide +kernel : decode cX7_worth 193 = .ok (.goto 4, 3)) rfl ?_
    refine jSub [0, 1, 2, 3, 4, 5, 6, 8] rfl ?_
    exact j_X7_worth_197 C hE t_v0 t_v4 t_v5 hk15 h
set_option maxHeartbeats 4000000 in
set_option maxRecDepth 100000 in
theorem j_X7_worth_129 {p : Program} {l : Launch} {e : Env} {s : State} {m : MethodId} {args : Array Value} {below : List Frame} {meth : Method} {c : Code} {b : Nat} {D : va_G} {cy : Nat → ClassId} {G : Gm} {k15 : Int32 → Int32 → Int32 → St → Prop} {v0 : Nat} {v3 : Int32} {v4 : Nat} {v5 : Nat} {S : St} {Q : Int32 → St → Prop} (C : CX p s m args meth c b D cy cX7_worth RX7 12 (some .int)) (hE : s.heap.size + 0 ≤ b + G.2.2) (hk15 : ∀ v6' v7' v8' S, k15 v6' v7' v8' S → J p l e rm_X7_worth s m args below meth c b D cy 12 (zI b D cy below args s G Q) 0 0 G S 15 [(0, .ref (b + v0)), (3, .int v3), (4, .ref (b + v4)), (5, .ref (b + v5)), (6, .int (v6')), (7, .int (v7')), (8, .int (v8'))] []) (h : f_X7_worth_129 G k15 Q S) : J p l e rm_X7_worth s m args below meth c b D cy 12 (zI b D cy below args s G Q) 0 0 G S 129 [] [] := by
  unfold f_X7_worth_129 at h
  refine jLdc C 131 (by decide +kernel : decode cX7_worth 129 = .ok (.ldc 21, 2)) rfl wd_474 ?_
  exact jRetI C (by decide +kernel : decode cX7_worth 131 = .ok (.ireturn, 1)) (Nat.le_refl _) (Nat.le_refl _) ⟨rfl, h⟩
set_option maxHeartbeats 4000000 in
set_option maxRecDepth 100000 in
theorem j_X7_worth_109 {p : Program} {l : Launch} {e : Env} {s : State} {m : MethodId} {args : Array Value} {below : List Frame} {meth : Method} {c : Code} {b : Nat} {D : va_G} {cy : Nat → ClassId} {G : Gm} {k15 : Int32 → Int32 → Int32 → St → Prop} {v0 : Nat} {v3 : Int32} {v4 : Nat} {v5 : Nat} {v6 : Int32} {v7 : Int32} {v8 : Int32} {u0 : Int64} {u1 : Int32} {u2 : Nat} {S : St} {Q : Int32 → St → Prop} (C : CX p s m args meth c b D cy cX7_worth RX7 12 (some .int)) (hE : s.heap.size + 0 ≤ b + G.2.2) (t_v0 : ok G 6 v0) (t_v4 : ok G 11 v4) (t_v5 : ok G 11 v5) (t_u2 : ok G 12 u2) (hk15 : ∀ v6' v7' v8' S, k15 v6' v7' v8' S → J p l e rm_X7_worth s m args below meth c b D cy 12 (zI b D cy below args s G Q) 0 0 G S 15 [(0, .ref (b + v0)), (3, .int v3), (4, .ref (b + v4)), (5, .ref (b + v5)), (6, .int (v6')), (7, .int (v7')), (8, .int (v8'))] []) (h : f_X7_worth_109 G k15 v0 v3 v4 v5 v6 v7 v8 u0 u1 u2 Q S) : J p l e rm_X7_worth s m args below meth c b D cy 12 (zI b D cy below args s G Q) 0 0 G S 109 [(0, .ref (b + v0)), (3, .int v3), (4, .ref (b + v4)), (5, .ref (b + v5)), (6, .int v6), (7, .int v7), (8, .int v8)] [.long u0, .int u1, .ref (b + u2)] := by
  unfold f_X7_worth_109 at h
  obtain ⟨y1, h⟩ := h
  refine jLast C 110 (by decide +kernel : decode cX7_worth 109 = .ok (.lastore, 1)) rfl hE t_u2 y1 ?_
  refine jTopS (fun S2 e_S2 => ?_)
  have h := h S2 e_S2
  refine jB C [(.iinc 6 1, 3, 1)] 113 [(6, .int (v6 + 1)), (0, .ref (b + v0)), (3, .int v3), (4, .ref (b + v4)), (5, .ref (b + v5)), (7, .int v7), (8, .int v8)] [] (by decide +kernel) rfl rfl ?_
  refine jGoto C 319 (by decide +kernel : decode cX7_worth 113 = .ok (.goto 206, 3)) rfl ?_
  refine jB C [(.iinc 8 1, 3, 1)] 322 [(8, .int (v8 + 1)), (6, .int (v6 + 1)), (0, .ref (b + v0)), (3, .int v3), (4, .ref (b + v4)), (5, .ref (b + v5)), (7, .int v7)] [] (by decide +kernel) rfl rfl ?_
  refine jGoto C 15 (by decide +kernel : decode cX7_worth 322 = .ok (.goto (-307), 3)) rfl ?_
  refine jSub [2, 3, 4, 5, 1, 6, 0] rfl ?_
  exact hk15 (v6 + 1) v7 (v8 + 1) S2 h
set_option maxHeartbeats 4000000 in
set_option maxRecDepth 100000 in
theorem j_X7_worth_74 {p : Program} {l : Launch} {e : Env} {s : State} {m : MethodId} {args : Array Value} {below : List Frame} {meth : Method} {c : Code} {b : Nat} {D : va_G} {cy : Nat → ClassId} {G : Gm} {k15 : Int32 → Int32 → Int32 → St → Prop} {v0 : Nat} {v3 : Int32} {v4 : Nat} {v5 : Nat} {v6 : Int32} {v7 : Int32} {v8 : Int32} {v9 : Int32} {v10 : Int32} {S : St} {Q : Int32 → St → Prop} (C : CX p s m args meth c b D cy cX7_worth RX7 12 (some .int)) (hE : s.heap.size + 0 ≤ b + G.2.2) (t_v0 : ok G 6 v0) (t_v4 : ok G 11 v4) (t_v5 : ok G 11 v5) (hk15 : ∀ v6' v7' v8' S, k15 v6' v7' v8' S → J p l e rm_X7_worth s m args below meth c b D cy 12 (zI b D cy below args s G Q) 0 0 G S 15 [(0, .ref (b + v0)), (3, .int v3), (4, .ref (b + v4)), (5, .ref (b + v5)), (6, .int (v6')), (7, .int (v7')), (8, .int (v8'))] []) (h : f_X7_worth_74 G k15 v0 v3 v4 v5 v6 v7 v8 v9 v10 Q S) : J p l e rm_X7_worth s m args below meth c b D cy 12 (zI b D cy below args s G Q) 0 0 G S 74 [(0, .ref (b + v0)), (3, .int v3), (4, .ref (b + v4)), (5, .ref (b + v5)), (6, .int v6), (7, .int v7), (8, .int v8), (9, .int v9), (10, .int v10)] [] := by
  unfold f_X7_worth_74 at h
  refine jB C [(.iload 6, 2, 0), (.bipush 32, 2, 32)] 78 [(0, .ref (b + v0)), (3, .int v3), (4, .ref (b + v4)), (5, .ref (b + v5)), (6, .int v6), (7, .int v7), (8, .int v8), (9, .int v9), (10, .int v10)] [.int 32, .int v6] (by decide +kernel) rfl rfl ?_
  refine jIcmp_lt C 81 84 (by decide +kernel : decode cX7_worth 78 = .ok (.if_icmp .lt 6, 3)) rfl rfl (fun c1 => ?_) (fun c1 => ?_)
  · have h := it1 h c1
    refine jB C [(.aload_n 0, 1, 0)] 85 [(0, .ref (b + v0)), (3, .int v3), (4, .ref (b + v4)), (5, .ref (b + v5)), (6, .int v6), (7, .int v7), (8, .int v8), (9, .int v9), (10, .int v10)] [.ref (b + v0)] (by decide +kernel) rfl rfl ?_
    obtain ⟨a2, e_a2, h⟩ := h
    refine jGetR C 88 (by decide +kernel : decode cX7_worth 85 = .ok (.getfield 11, 3)) rfl t_v0 kX7 0 (by decide) rfl rfl (by decide) wd_112 e_a2 rfl (fun t_a2 => ?_)
    refine jB C [(.iload 6, 2, 0), (.iload 9, 2, 0)] 92 [(0, .ref (b + v0)), (3, .int v3), (4, .ref (b + v4)), (5, .ref (b + v5)), (6, .int v6), (7, .int v7), (8, .int v8), (9, .int v9), (10, .int v10)] [.int v9, .int v6, .ref (b + a2)] (by decide +kernel) rfl rfl ?_
    refine jIf_ne C 95 101 (by decide +kernel : decode cX7_worth 92 = .ok (.ifCond .ne 9, 3)) rfl rfl (fun c3 => ?_) (fun c3 => ?_)
    · have h := it2 h c3
      refine jB C [(.aload 4, 2, 0), (.iload 10, 2, 0)] 105 [(0, .ref (b + v0)), (3, .int v3), (4, .ref (b + v4)), (5, .ref (b + v5)), (6, .int v6), (7, .int v7), (8, .int v8), (9, .int v9), (10, .int v10)] [.int v10, .ref (b + v4), .int v6, .ref (b + a2)] (by decide +kernel) rfl rfl ?_
      refine jcS_I C 108 (rest := [.int v6, .ref (b + a2)]) (ok_X7_wordAt t_v4 h) (by decide +kernel : decode cX7_worth 105 = .ok (.invokestatic 22, 3)) rfl wd_475 wd_476 wd_5 wd_477 ⟨rfl, rfl⟩ hd_X7_wordAt ⟨Nat.le_of_ble_eq_true rfl, Nat.le_of_ble_eq_true rfl⟩ rfl rfl (Nat.le_of_ble_eq_true rfl) ⟨Nat.zero_le _, Nat.zero_le _⟩ (fun r5 S4 h => ?_)
      refine jB C [(.i2l, 1, 0)] 109 [(0, .ref (b + v0)), (3, .int v3), (4, .ref (b + v4)), (5, .ref (b + v5)), (6, .int v6), (7, .int v7), (8, .int v8), (9, .int v9), (10, .int v10)] [.long r5.toInt64, .int v6, .ref (b + a2)] (by decide +kernel) rfl rfl ?_
      refine jSub [0, 1, 2, 3, 4, 5, 6] rfl ?_
      exact j_X7_worth_109 C hE t_v0 t_v4 t_v5 t_a2 hk15 h
    · have h := it1 h c3
      refine jB C [(.iload 10, 2, 0), (.i2l, 1, 0)] 98 [(0, .ref (b + v0)), (3, .int v3), (4, .ref (b + v4)), (5, .ref (b + v5)), (6, .int v6), (7, .int v7), (8, .int v8), (9, .int v9), (10, .int v10)] [.long v10.toInt64, .int v6, .ref (b + a2)] (by decide +kernel) rfl rfl ?_
      refine jGoto C 109 (by decide +kernel : decode cX7_worth 98 = .ok (.goto 11, 3)) rfl ?_
      refine jSub [0, 1, 2, 3, 4, 5, 6] rfl ?_
      exact j_X7_worth_109 C hE t_v0 t_v4 t_v5 t_a2 hk15 h
  · have h := it2 h c1
    refine jLdc C 83 (by decide +kernel : decode cX7_worth 81 = .ok (.ldc 21, 2)) rfl wd_474 ?_
    exact jRetI C (by decide +kernel : decode cX7_worth 83 = .ok (.ireturn, 1)) (Nat.le_refl _) (Nat.le_refl _) ⟨rfl, h⟩
set_option maxHeartbeats 4000000 in
set_option maxRecDepth 100000 in
theorem j_X7_worth_15_n {p : Program} {l : Launch} {e : Env} {s : State} {m : MethodId} {args : Array Value} {below : List Frame} {meth : Method} {c : Code} {b : Nat} {D : va_G} {cy : Nat → ClassId} {G : Gm} {v0 : Nat} {v3 : Int32} {v4 : Nat} {v5 : Nat} {Q : Int32 → St → Prop} (C : CX p s m args meth c b D cy cX7_worth RX7 12 (some .int)) (hE : s.heap.size + 0 ≤ b + G.2.2) (t_v0 : ok G 6 v0) (t_v4 : ok G 11 v4) (t_v5 : ok G 11 v5) : ∀ k (v6 : Int32) (v7 : Int32) (v8 : Int32) S, f_X7_worth_15_n G v0 v3 v4 v5 Q k v6 v7 v8 S → J p l e rm_X7_worth s m args below meth c b D cy 12 (zI b D cy below args s G Q) 0 0 G S 15 [(0, .ref (b + v0)), (3, .int v3), (4, .ref (b + v4)), (5, .ref (b + v5)), (6, .int v6), (7, .int v7), (8, .int v8)] [] := by
  intro k
  induction k with
  | zero => intro v6 v7 v8 S h; exact h.elim
  | succ k ih =>
    intro v6 v7 v8 S h
    unfold f_X7_worth_15_n at h
    refine jB C [(.iload 8, 2, 0), (.sipush 400, 3, 400)] 20 [(0, .ref (b + v0)), (3, .int v3), (4, .ref (b + v4)), (5, .ref (b + v5)), (6, .int v6), (7, .int v7), (8, .int v8)] [.int 400, .int v8] (by decide +kernel) rfl rfl ?_
    refine jIcmp_ge C 23 325 (by decide +kernel : decode cX7_worth 20 = .ok (.if_icmp .ge 305, 3)) rfl rfl (fun c1 => ?_) (fun c1 => ?_)
    · have h := it1 h c1
      refine jSub [0, 4] rfl ?_
      exact j_X7_worth_325 C hE t_v0 h
    · have h := it2 h c1
      refine jB C [(.iload 7, 2, 0)] 25 [(0, .ref (b + v0)), (3, .int v3), (4, .ref (b + v4)), (5, .ref (b + v5)), (6, .int v6), (7, .int v7), (8, .int v8)] [.int v7] (by decide +kernel) rfl rfl ?_
      refine jIf_lt C 28 325 (by decide +kernel : decode cX7_worth 25 = .ok (.ifCond .lt 300, 3)) rfl rfl (fun c2 => ?_) (fun c2 => ?_)
      · have h := it1 h c2
        refine jSub [0, 4] rfl ?_
        exact j_X7_worth_325 C hE t_v0 h
      · have h := it2 h c2
        refine jB C [(.iload 7, 2, 0), (.iload_n 3, 1, 0)] 31 [(0, .ref (b + v0)), (3, .int v3), (4, .ref (b + v4)), (5, .ref (b + v5)), (6, .int v6), (7, .int v7), (8, .int v8)] [.int v3, .int v7] (by decide +kernel) rfl rfl ?_
        refine jIcmp_ge C 34 325 (by decide +kernel : decode cX7_worth 31 = .ok (.if_icmp .ge 294, 3)) rfl rfl (fun c3 => ?_) (fun c3 => ?_)
        · have h := it1 h c3
          refine jSub [0, 4] rfl ?_
          exact j_X7_worth_325 C hE t_v0 h
        · have h := it2 h c3
          refine jB C [(.iload 7, 2, 0), (.iconst 1, 1, 1), (.iadd, 1, 0), (.aload 5, 2, 0)] 40 [(0, .ref (b + v0)), (3, .int v3), (4, .ref (b + v4)), (5, .ref (b + v5)), (6, .int v6), (7, .int v7), (8, .int v8)] [.ref (b + v5), .int (v7 + 1)] (by decide +kernel) rfl rfl ?_
          refine jAlen11 C 41 (by decide +kernel : decode cX7_worth 40 = .ok (.arraylength, 1)) rfl t_v5 ?_
          refine jIcmp_ge C 44 325 (by decide +kernel : decode cX7_worth 41 = .ok (.if_icmp .ge 284, 3)) rfl rfl (fun c4 => ?_) (fun c4 => ?_)
          · have h := it1 h c4
            refine jSub [0, 4] rfl ?_
            exact j_X7_worth_325 C hE t_v0 h
          · have h := it2 h c4
            refine jB C [(.aload 5, 2, 0), (.iload 7, 2, 0)] 48 [(0, .ref (b + v0)), (3, .int v3), (4, .ref (b + v4)), (5, .ref (b + v5)), (6, .int v6), (7, .int v7), (8, .int v8)] [.int v7, .ref (b + v5)] (by decide +kernel) rfl rfl ?_
            obtain ⟨y5, h⟩ := h
            refine jIald C 49 (by decide +kernel : decode cX7_worth 48 = .ok (.iaload, 1)) rfl t_v5 y5 ?_
            refine jTopI (fun x6 e_x6 => ?_)
            have h := h x6 e_x6
            refine jB C [(.istore 9, 2, 0), (.aload 5, 2, 0), (.iload 7, 2, 0), (.iconst 1, 1, 1), (.iadd, 1, 0)] 57 [(9, .int x6), (0, .ref (b + v0)), (3, .int v3), (4, .ref (b + v4)), (5, .ref (b + v5)), (6, .int v6), (7, .int v7), (8, .int v8)] [.int (v7 + 1), .ref (b + v5)] (by decide +kernel) rfl rfl ?_
            obtain ⟨y7, h⟩ := h
            refine jIald C 58 (by decide +kernel : decode cX7_worth 57 = .ok (.iaload, 1)) rfl t_v5 y7 ?_
            refine jTopI (fun x8 e_x8 => ?_)
            have h := h x8 e_x8
            refine jB C [(.istore 10, 2, 0), (.iinc 7 2, 3, 2), (.iload 9, 2, 0)] 65 [(7, .int (v7 + 2)), (10, .int x8), (9, .int x6), (0, .ref (b + v0)), (3, .int v3), (4, .ref (b + v4)), (5, .ref (b + v5)), (6, .int v6), (8, .int v8)] [.int x6] (by decide +kernel) rfl rfl ?_
            refine jIf_eq C 68 74 (by decide +kernel : decode cX7_worth 65 = .ok (.ifCond .eq 9, 3)) rfl rfl (fun c9 => ?_) (fun c9 => ?_)
            · have h := it1 h c9
              refine jSub [3, 4, 5, 6, 7, 0, 8, 2, 1] rfl ?_
              exact j_X7_worth_74 C hE t_v0 t_v4 t_v5 ih h
            · have h := it2 h c9
              refine jB C [(.iload 9, 2, 0), (.iconst 1, 1, 1)] 71 [(7, .int (v7 + 2)), (10, .int x8), (9, .int x6), (0, .ref (b + v0)), (3, .int v3), (4, .ref (b + v4)), (5, .ref (b + v5)), (6, .int v6), (8, .int v8)] [.int 1, .int x6] (by decide +kernel) rfl rfl ?_
              refine jIcmp_ne C 74 116 (by decide +kernel : decode cX7_worth 71 = .ok (.if_icmp .ne 45, 3)) rfl rfl (fun c10 => ?_) (fun c10 => ?_)
              · have h := it2 h c10
                refine jB C [(.iload 6, 2, 0), (.iconst 1, 1, 1)] 119 [(7, .int (v7 + 2)), (10, .int x8), (9, .int x6), (0, .ref (b + v0)), (3, .int v3), (4, .ref (b + v4)), (5, .ref (b + v5)), (6, .int v6), (8, .int v8)] [.int 1, .int v6] (by decide +kernel) rfl rfl ?_
                refine jIcmp_lt C 122 129 (by decide +kernel : decode cX7_worth 119 = .ok (.if_icmp .lt 10, 3)) rfl rfl (fun c11 => ?_) (fun c11 => ?_)
                · have h := it1 h c11
                  refine jSub [] rfl ?_
                  exact j_X7_worth_129 C hE ih h
                · have h := it2 h c11
                  refine jB C [(.iload 6, 2, 0), (.bipush 32, 2, 32)] 126 [(7, .int (v7 + 2)), (10, .int x8), (9, .int x6), (0, .ref (b + v0)), (3, .int v3), (4, .ref (b + v4)), (5, .ref (b + v5)), (6, .int v6), (8, .int v8)] [.int 32, .int v6] (by decide +kernel) rfl rfl ?_
                  refine jIcmp_le C 129 132 (by decide +kernel : decode cX7_worth 126 = .ok (.if_icmp .le 6, 3)) rfl rfl (fun c12 => ?_) (fun c12 => ?_)
                  · have h := it1 h c12
                    refine jB C [(.iload 9, 2, 0), (.bipush 10, 2, 10)] 136 [(7, .int (v7 + 2)), (10, .int x8), (9, .int x6), (0, .ref (b + v0)), (3, .int v3), (4, .ref (b + v4)), (5, .ref (b + v5)), (6, .int v6), (8, .int v8)] [.int 10, .int x6] (by decide +kernel) rfl rfl ?_
                    refine jIcmp_ne C 139 162 (by decide +kernel : decode cX7_worth 136 = .ok (.if_icmp .ne 26, 3)) rfl rfl (fun c13 => ?_) (fun c13 => ?_)
                    · have h := it2 h c13
                      refine jB C [(.iload 9, 2, 0), (.bipush 11, 2, 11)] 166 [(7, .int (v7 + 2)), (10, .int x8), (9, .int x6), (0, .ref (b + v0)), (3, .int v3), (4, .ref (b + v4)), (5, .ref (b + v5)), (6, .int v6), (8, .int v8)] [.int 11, .int x6] (by decide +kernel) rfl rfl ?_
                      refine jIcmp_eq C 169 176 (by decide +kernel : decode cX7_worth 166 = .ok (.if_icmp .eq 10, 3)) rfl rfl (fun c14 => ?_) (fun c14 => ?_)
                      · have h := it1 h c14
                        refine jSub [3, 4, 5, 6, 7, 0, 8, 2, 1] rfl ?_
                        exact j_X7_worth_176 C hE t_v0 t_v4 t_v5 ih h
                      · have h := it2 h c14
                        refine jB C [(.iload 9, 2, 0), (.bipush 12, 2, 12)] 173 [(7, .int (v7 + 2)), (10, .int x8), (9, .int x6), (0, .ref (b + v0)), (3, .int v3), (4, .ref (b + v4)), (5, .ref (b + v5)), (6, .int v6), (8, .int v8)] [.int 12, .int x6] (by decide +kernel) rfl rfl ?_
                        refine jIcmp_ne C 176 242 (by decide +kernel : decode cX7_worth 173 = .ok (.if_icmp .ne 69, 3)) rfl rfl (fun c15 => ?_) (fun c15 => ?_)
                        · have h := it2 h c15
                          refine jB C [(.iload 6, 2, 0), (.iconst 2, 1, 2)] 245 [(7, .int (v7 + 2)), (10, .int x8), (9, .int x6), (0, .ref (b + v0)), (3, .int v3), (4, .ref (b + v4)), (5, .ref (b + v5)), (6, .int v6), (8, .int v8)] [.int 2, .int v6] (by decide +kernel) rfl rfl ?_
                          refine jIcmp_ge C 248 251 (by decide +kernel : decode cX7_worth 245 = .ok (.if_icmp .ge 6, 3)) rfl rfl (fun c16 => ?_) (fun c16 => ?_)
                          · have h := it1 h c16
                            refine jB C [(.iinc 6 (-1), 3, (-1)), (.aload_n 0, 1, 0)] 255 [(6, .int (v6 + (-1))), (7, .int (v7 + 2)), (10, .int x8), (9, .int x6), (0, .ref (b + v0)), (3, .int v3), (4, .ref (b + v4)), (5, .ref (b + v5)), (8, .int v8)] [.ref (b + v0)] (by decide +kernel) rfl rfl ?_
                            obtain ⟨a17, e_a17, h⟩ := h
                            refine jGetR C 258 (by decide +kernel : decode cX7_worth 255 = .ok (.getfield 11, 3)) rfl t_v0 kX7 0 (by decide) rfl rfl (by decide) wd_112 e_a17 rfl (fun t_a17 => ?_)
                            refine jB C [(.iload 6, 2, 0), (.iconst 1, 1, 1), (.isub, 1, 0), (.iload 9, 2, 0), (.aload_n 0, 1, 0)] 265 [(6, .int (v6 + (-1))), (7, .int (v7 + 2)), (10, .int x8), (9, .int x6), (0, .ref (b + v0)), (3, .int v3), (4, .ref (b + v4)), (5, .ref (b + v5)), (8, .int v8)] [.ref (b + v0), .int x6, .int ((v6 + (-1)) - 1), .ref (b + a17)] (by decide +kernel) rfl rfl ?_
                            obtain ⟨a18, e_a18, h⟩ := h
                            refine jGetR C 268 (by decide +kernel : decode cX7_worth 265 = .ok (.getfield 11, 3)) rfl t_v0 kX7 0 (by decide) rfl rfl (by decide) wd_112 e_a18 rfl (fun t_a18 => ?_)
                            refine jB C [(.iload 6, 2, 0), (.iconst 1, 1, 1), (.isub, 1, 0)] 272 [(6, .int (v6 + (-1))), (7, .int (v7 + 2)), (10, .int x8), (9, .int x6), (0, .ref (b + v0)), (3, .int v3), (4, .ref (b + v4)), (5, .ref (b + v5)), (8, .int v8)] [.int ((v6 + (-1)) - 1), .ref (b + a18), .int x6, .int ((v6 + (-1)) - 1), .ref (b + a17)] (by decide +kernel) rfl rfl ?_
                            obtain ⟨y19, h⟩ := h
                            refine jLald C 273 (by decide +kernel : decode cX7_worth 272 = .ok (.laload, 1)) rfl t_a18 y19 ?_
                            refine jB C [(.aload_n 0, 1, 0)] 274 [(6, .int (v6 + (-1))), (7, .int (v7 + 2)), (10, .int x8), (9, .int x6), (0, .ref (b + v0)), (3, .int v3), (4, .ref (b + v4)), (5, .ref (b + v5)), (8, .int v8)] [.ref (b + v0), .long (S.2.1 a18 ((v6 + (-1)) - 1).toNatClampNeg), .int x6, .int ((v6 + (-1)) - 1), .ref (b + a17)] (by decide +kernel) rfl rfl ?_
                            obtain ⟨a20, e_a20, h⟩ := h
                            refine jGetR C 277 (by decide +kernel : decode cX7_worth 274 = .ok (.getfield 11, 3)) rfl t_v0 kX7 0 (by decide) rfl rfl (by decide) wd_112 e_a20 rfl (fun t_a20 => ?_)
                            refine jB C [(.iload 6, 2, 0)] 279 [(6, .int (v6 + (-1))), (7, .int (v7 + 2)), (10, .int x8), (9, .int x6), (0, .ref (b + v0)), (3, .int v3), (4, .ref (b + v4)), (5, .ref (b + v5)), (8, .int v8)] [.int (v6 + (-1)), .ref (b + a20), .long (S.2.1 a18 ((v6 + (-1)) - 1).toNatClampNeg), .int x6, .int ((v6 + (-1)) - 1), .ref (b + a17)] (by decide +kernel) rfl rfl ?_
                            obtain ⟨y21, h⟩ := h
                            refine jLald C 280 (by decide +kernel : decode cX7_worth 279 = .ok (.laload, 1)) rfl t_a20 y21 ?_
                            refine jcS_L C 283 (rest := [.int ((v6 + (-1)) - 1), .ref (b + a17)]) (ok_X7_joined h) (by decide +kernel : decode cX7_worth 280 = .ok (.invokestatic 26, 3)) rfl wd_478 wd_479 wd_5 wd_480 ⟨rfl, rfl⟩ hd_X7_joined ⟨Nat.le_of_ble_eq_true rfl, Nat.le_of_ble_eq_true rfl⟩ rfl rfl (Nat.le_of_ble_eq_true rfl) ⟨Nat.zero_le _, Nat.zero_le _⟩ (fun r23 S22 h => ?_)
                            obtain ⟨y24, h⟩ := h
                            refine jLast C 284 (by decide +kernel : decode cX7_worth 283 = .ok (.lastore, 1)) rfl hE t_a17 y24 ?_
                            refine jTopS (fun S25 e_S25 => ?_)
                            have h := h S25 e_S25
                            refine jB C [(.aload_n 0, 1, 0)] 285 [(6, .int (v6 + (-1))), (7, .int (v7 + 2)), (10, .int x8), (9, .int x6), (0, .ref (b + v0)), (3, .int v3), (4, .ref (b + v4)), (5, .ref (b + v5)), (8, .int v8)] [.ref (b + v0)] (by decide +kernel) rfl rfl ?_
                            obtain ⟨a26, e_a26, h⟩ := h
                            refine jGetR C 288 (by decide +kernel : decode cX7_worth 285 = .ok (.getfield 11, 3)) rfl t_v0 kX7 0 (by decide) rfl rfl (by decide) wd_112 e_a26 rfl (fun t_a26 => ?_)
                            refine jB C [(.iload 6, 2, 0), (.iconst 1, 1, 1), (.isub, 1, 0)] 292 [(6, .int (v6 + (-1))), (7, .int (v7 + 2)), (10, .int x8), (9, .int x6), (0, .ref (b + v0)), (3, .int v3), (4, .ref (b + v4)), (5, .ref (b + v5)), (8, .int v8)] [.int ((v6 + (-1)) - 1), .ref (b + a26)] (by decide +kernel) rfl rfl ?_
                            obtain ⟨y27, h⟩ := h
                            refine jLald C 293 (by decide +kernel : decode cX7_worth 292 = .ok (.laload, 1)) rfl t_a26 y27 ?_
                            refine jLdc2 C 296 (by decide +kernel : decode cX7_worth 293 = .ok (.ldc2_w 30, 3)) rfl wd_482 ?_
                            refine jB C [(.lcmp, 1, 0)] 297 [(6, .int (v6 + (-1))), (7, .int (v7 + 2)), (10, .int x8), (9, .int x6), (0, .ref (b + v0)), (3, .int v3), (4, .ref (b + v4)), (5, .ref (b + v5)), (8, .int v8)] [.int (lg_cmp (S25.2.1 a26 ((v6 + (-1)) - 1).toNatClampNeg) 1000000000)] (by decide +kernel) rfl rfl ?_
                            refine jIf_gt C 300 316 (by decide +kernel : decode cX7_worth 297 = .ok (.ifCond .gt 19, 3)) rfl rfl (fun c28 => ?_) (fun c28 => ?_)
                            · have h := it1 h c28
                              refine jSub [] rfl ?_
                              exact j_X7_worth_316 C hE ih h
                            · have h := it2 h c28
                              refine jB C [(.aload_n 0, 1, 0)] 301 [(6, .int (v6 + (-1))), (7, .int (v7 + 2)), (10, .int x8), (9, .int x6), (0, .ref (b + v0)), (3, .int v3), (4, .ref (b + v4)), (5, .ref (b + v5)), (8, .int v8)] [.ref (b + v0)] (by decide +kernel) rfl rfl ?_
                              obtain ⟨a29, e_a29, h⟩ := h
                              refine jGetR C 304 (by decide +kernel : decode cX7_worth 301 = .ok (.getfield 11, 3)) rfl t_v0 kX7 0 (by decide) rfl rfl (by decide) wd_112 e_a29 rfl (fun t_a29 => ?_)
                              refine jB C [(.iload 6, 2, 0), (.iconst 1, 1, 1), (.isub, 1, 0)] 308 [(6, .int (v6 + (-1))), (7, .int (v7 + 2)), (10, .int x8), (9, .int x6), (0, .ref (b + v0)), (3, .int v3), (4, .ref (b + v4)), (5, .ref (b + v5)), (8, .int v8)] [.int ((v6 + (-1)) - 1), .ref (b + a29)] (by decide +kernel) rfl rfl ?_
                              obtain ⟨y30, h⟩ := h
                              refine jLald C 309 (by decide +kernel : decode cX7_worth 308 = .ok (.laload, 1)) rfl t_a29 y30 ?_
                              refine jLdc2 C 312 (by decide +kernel : decode cX7_worth 309 = .ok (.ldc2_w 32, 3)) rfl wd_483 ?_
                              refine jB C [(.lcmp, 1, 0)] 313 [(6, .int (v6 + (-1))), (7, .int (v7 + 2)), (10, .int x8), (9, .int x6), (0, .ref (b + v0)), (3, .int v3), (4, .ref (b + v4)), (5, .ref (b + v5)), (8, .int v8)] [.int (lg_cmp (S25.2.1 a29 ((v6 + (-1)) - 1).toNatClampNeg) (-1000000000))] (by decide +kernel) rfl rfl ?_
                              refine jIf_ge C 316 319 (by decide +kernel : decode cX7_worth 313 = .ok (.ifCond .ge 6, 3)) rfl rfl (fun c31 => ?_) (fun c31 => ?_)
                              · have h := it1 h c31
                                refine jB C [(.iinc 8 1, 3, 1)] 322 [(8, .int (v8 + 1)), (6, .int (v6 + (-1))), (7, .int (v7 + 2)), (10, .int x8), (9, .int x6), (0, .ref (b + v0)), (3, .int v3), (4, .ref (b + v4)), (5, .ref (b + v5))] [] (by decide +kernel) rfl rfl ?_
                                refine jGoto C 15 (by decide +kernel : decode cX7_worth 322 = .ok (.goto (-307), 3)) rfl ?_
                                refine jSub [5, 6, 7, 8, 1, 2, 0] rfl ?_
                                exact ih (v6 + (-1)) (v7 + 2) (v8 + 1) S25 h
                              · have h := it2 h c31
                                refine jSub [] rfl ?_
                                exact j_X7_worth_316 C hE ih h
                          · have h := it2 h c16
                            refine jLdc C 250 (by decide +kernel : decode cX7_worth 248 = .ok (.ldc 21, 2)) rfl wd_474 ?_
                            exact jRetI C (by decide +kernel : decode cX7_worth 250 = .ok (.ireturn, 1)) (Nat.le_refl _) (Nat.le_refl _) ⟨rfl, h⟩
                        · have h := it1 h c15
                          refine jSub [3, 4, 5, 6, 7, 0, 8, 2, 1] rfl ?_
                          exact j_X7_worth_176 C hE t_v0 t_v4 t_v5 ih h
                    · have h := it1 h c13
                      refine jB C [(.aload_n 0, 1, 0)] 140 [(7, .int (v7 + 2)), (10, .int x8), (9, .int x6), (0, .ref (b + v0)), (3, .int v3), (4, .ref (b + v4)), (5, .ref (b + v5)), (6, .int v6), (8, .int v8)] [.ref (b + v0)] (by decide +kernel) rfl rfl ?_
                      obtain ⟨a32, e_a32, h⟩ := h
                      refine jGetR C 143 (by decide +kernel : decode cX7_worth 140 = .ok (.getfield 11, 3)) rfl t_v0 kX7 0 (by decide) rfl rfl (by decide) wd_112 e_a32 rfl (fun t_a32 => ?_)
                      refine jB C [(.iload 6, 2, 0), (.iconst 1, 1, 1), (.isub, 1, 0), (.lconst 1, 1, 0), (.aload_n 0, 1, 0)] 149 [(7, .int (v7 + 2)), (10, .int x8), (9, .int x6), (0, .ref (b + v0)), (3, .int v3), (4, .ref (b + v4)), (5, .ref (b + v5)), (6, .int v6), (8, .int v8)] [.ref (b + v0), .long 1, .int (v6 - 1), .ref (b + a32)] (by decide +kernel) rfl rfl ?_
                      obtain ⟨a33, e_a33, h⟩ := h
                      refine jGetR C 152 (by decide +kernel : decode cX7_worth 149 = .ok (.getfield 11, 3)) rfl t_v0 kX7 0 (by decide) rfl rfl (by decide) wd_112 e_a33 rfl (fun t_a33 => ?_)
                      refine jB C [(.iload 6, 2, 0), (.iconst 1, 1, 1), (.isub, 1, 0)] 156 [(7, .int (v7 + 2)), (10, .int x8), (9, .int x6), (0, .ref (b + v0)), (3, .int v3), (4, .ref (b + v4)), (5, .ref (b + v5)), (6, .int v6), (8, .int v8)] [.int (v6 - 1), .ref (b + a33), .long 1, .int (v6 - 1), .ref (b + a32)] (by decide +kernel) rfl rfl ?_
                      obtain ⟨y34, h⟩ := h
                      refine jLald C 157 (by decide +kernel : decode cX7_worth 156 = .ok (.laload, 1)) rfl t_a33 y34 ?_
                      refine jB C [(.lsub, 1, 0)] 158 [(7, .int (v7 + 2)), (10, .int x8), (9, .int x6), (0, .ref (b + v0)), (3, .int v3), (4, .ref (b + v4)), (5, .ref (b + v5)), (6, .int v6), (8, .int v8)] [.long (1 - (S.2.1 a33 (v6 - 1).toNatClampNeg)), .int (v6 - 1), .ref (b + a32)] (by decide +kernel) rfl rfl ?_
                      obtain ⟨y35, h⟩ := h
                      refine jLast C 159 (by decide +kernel : decode cX7_worth 158 = .ok (.lastore, 1)) rfl hE t_a32 y35 ?_
                      refine jTopS (fun S36 e_S36 => ?_)
                      have h := h S36 e_S36
                      refine jGoto C 319 (by decide +kernel : decode cX7_worth 159 = .ok (.goto 160, 3)) rfl ?_
                      refine jB C [(.iinc 8 1, 3, 1)] 322 [(8, .int (v8 + 1)), (7, .int (v7 + 2)), (10, .int x8), (9, .int x6), (0, .ref (b + v0)), (3, .int v3), (4, .ref (b + v4)), (5, .ref (b + v5)), (6, .int v6)] [] (by decide +kernel) rfl rfl ?_
                      refine jGoto C 15 (by decide +kernel : decode cX7_worth 322 = .ok (.goto (-307), 3)) rfl ?_
                      refine jSub [4, 5, 6, 7, 8, 1, 0] rfl ?_
                      exact ih v6 (v7 + 2) (v8 + 1) S36 h
                  · have h := it2 h c12
                    refine jSub [] rfl ?_
                    exact j_X7_worth_129 C hE ih h
              · have h := it1 h c10
                refine jSub [3, 4, 5, 6, 7, 0, 8, 2, 1] rfl ?_
                exact j_X7_worth_74 C hE t_v0 t_v4 t_v5 ih h
theorem j_X7_worth_15 {p : Program} {l : Launch} {e : Env} {s : State} {m : MethodId} {args : Array Value} {below : List Frame} {meth : Method} {c : Code} {b : Nat} {D : va_G} {cy : Nat → ClassId} {G : Gm} {v0 : Nat} {v3 : Int32} {v4 : Nat} {v5 : Nat} {v6 : Int32} {v7 : Int32} {v8 : Int32} {S : St} {Q : Int32 → St → Prop} (C : CX p s m args meth c b D cy cX7_worth RX7 12 (some .int)) (hE : s.heap.size + 0 ≤ b + G.2.2) (t_v0 : ok G 6 v0) (t_v4 : ok G 11 v4) (t_v5 : ok G 11 v5) (h : f_X7_worth_15 G v0 v3 v4 v5 Q v6 v7 v8 S) : J p l e rm_X7_worth s m args below meth c b D cy 12 (zI b D cy below args s G Q) 0 0 G S 15 [(0, .ref (b + v0)), (3, .int v3), (4, .ref (b + v4)), (5, .ref (b + v5)), (6, .int v6), (7, .int v7), (8, .int v8)] [] := by
  obtain ⟨k, h⟩ := h
  exact j_X7_worth_15_n C hE t_v0 t_v4 t_v5 k v6 v7 v8 S h
set_option maxHeartbeats 4000000 in
set_option maxRecDepth 100000 in
theorem j_X7_worth {p : Program} {l : Launch} {e : Env} {s : State} {m : MethodId} {args : Array Value} {below : List Frame} {meth : Method} {c : Code} {b : Nat} {D : va_G} {cy : Nat → ClassId} {G : Gm} {v0 : Nat} {v1 : Nat} {v2 : Int32} {v3 : Int32} {v4 : Nat} {S : St} {Q : Int32 → St → Prop} (C : CX p s m args meth c b D cy cX7_worth RX7 12 (some .int)) (hE : s.heap.size + 0 ≤ b + G.2.2) (t_v0 : ok G 6 v0) (t_v1 : ok G 7 v1) (t_v4 : ok G 11 v4) (h : f_X7_worth G v0 v1 v2 v3 v4 Q S) : J p l e rm_X7_worth s m args below meth c b D cy 12 (zI b D cy below args s G Q) 0 0 G S 0 [(0, .ref (b + v0)), (1, .ref (b + v1)), (2, .int v2), (3, .int v3), (4, .ref (b + v4))] [] := by
  unfold f_X7_worth at h
  refine jB C [(.aload_n 1, 1, 0)] 1 [(0, .ref (b + v0)), (1, .ref (b + v1)), (2, .int v2), (3, .int v3), (4, .ref (b + v4))] [.ref (b + v1)] (by decide +kernel) rfl rfl ?_
  obtain ⟨a1, e_a1, h⟩ := h
  refine jGetRN C 4 (by decide +kernel : decode cX7_worth 1 = .ok (.getfield 15, 3)) rfl t_v1 kX8 4 (by decide) rfl rfl (by decide) wn_254 e_a1 rfl (fun t_a1 => ?_)
  refine jB C [(.astore 5, 2, 0), (.iconst 0, 1, 0), (.istore 6, 2, 0), (.iload_n 2, 1, 0), (.istore 7, 2, 0), (.iconst 0, 1, 0), (.istore 8, 2, 0)] 15 [(8, .int 0), (7, .int v2), (6, .int 0), (5, .ref (b + a1)), (0, .ref (b + v0)), (1, .ref (b + v1)), (2, .int v2), (3, .int v3), (4, .ref (b + v4))] [] (by decide +kernel) rfl rfl ?_
  refine jSub [4, 7, 8, 3, 2, 1, 0] rfl ?_
  exact j_X7_worth_15 C hE t_v0 t_v4 t_a1 h
theorem ok_X7_worth {G : Gm} {v0 : Nat} {v1 : Nat} {v2 : Int32} {v3 : Int32} {v4 : Nat} {S : St} {Q : Int32 → St → Prop}  (t_v0 : ok G 6 v0) (t_v1 : ok G 7 v1) (t_v4 : ok G 11 v4) (h : f_X7_worth G v0 v1 v2 v3 v4 Q S) : MT yX7_worth cX7_worth 12 (some .int) rm_X7_worth 0 0 (fun b => [.ref (b + v0), .ref (b + v1), .int v2, .int v3, .ref (b + v4)]) G S (QI (fun r G1 S1 => G1 = G ∧ Q r S1)) := MT.ofJ (by decide +kernel) (fun b => [(0, .ref (b + v0)), (1, .ref (b + v1)), (2, .int v2), (3, .int v3), (4, .ref (b + v4))]) (fun b => rfl) (fun b => Nat.le_of_ble_eq_true rfl) (fun l b D cy p e s m below meth c C hE hn => j_X7_worth C hE t_v0 t_v1 t_v4 h)
theorem hd_X7_worth : yX7_worth.cls ≠ "java/lang/invoke/MethodHandle" ∧ yX7_worth.cls ≠ "java/lang/invoke/VarHandle" ∧ (parseMethodDescriptor yX7_worth.desc).map (fun d => d.parameters.length) = some 4 := by decide +kernel
abbrev rm_X2_lastTold : Room := { frames := 2, cells := 0, slots := 0, locals := 55 }
set_option maxHeartbeats 4000000 in
set_option maxRecDepth 100000 in
theorem j_X2_lastTold_109 {p : Program} {l : Launch} {e : Env} {s : State} {m : MethodId} {args : Array Value} {below : List Frame} {meth : Method} {c : Code} {b : Nat} {D : va_G} {cy : Nat → ClassId} {G : Gm} {k14 : Int32 → St → Prop} {v0 : Nat} {v1 : Nat} {v2 : Int32} {v3 : Int32} {u0 : Int32} {S : St} {Q : Int32 → St → Prop} (C : CX p s m args meth c b D cy cX2_lastTold RX2 8 (some .int)) (hE : s.heap.size + 0 ≤ b + G.2.2) (t_v0 : ok G 2 v0) (t_v1 : ok G 7 v1) (hk14 : ∀ v3' S, k14 v3' S → J p l e rm_X2_lastTold s m args below meth c b D cy 8 (zI b D cy below args s G Q) 0 0 G S 14 [(0, .ref (b + v0)), (1, .ref (b + v1)), (2, .int v2), (3, .int (v3'))] []) (h : f_X2_lastTold_109 G k14 v0 v1 v2 v3 u0 Q S) : J p l e rm_X2_lastTold s m args below meth c b D cy 8 (zI b D cy below args s G Q) 0 0 G S 109 [(0, .ref (b + v0)), (1, .ref (b + v1)), (2, .int v2), (3, .int v3)] [.int u0] := by
  unfold f_X2_lastTold_109 at h
  refine jB C [(.istore 7, 2, 0), (.iload 7, 2, 0)] 113 [(7, .int u0), (0, .ref (b + v0)), (1, .ref (b + v1)), (2, .int v2), (3, .int v3)] [.int u0] (by decide +kernel) rfl rfl ?_
  refine jLdc C 115 (by decide +kernel : decode cX2_lastTold 113 = .ok (.ldc 30, 2)) rfl wd_461 ?_
  refine jIcmp_eq C 118 121 (by decide +kernel : decode cX2_lastTold 115 = .ok (.if_icmp .eq 6, 3)) rfl rfl (fun c1 => ?_) (fun c1 => ?_)
  · have h := it1 h c1
    refine jB C [(.iinc 3 (-1), 3, (-1))] 124 [(3, .int (v3 + (-1))), (7, .int u0), (0, .ref (b + v0)), (1, .ref (b + v1)), (2, .int v2)] [] (by decide +kernel) rfl rfl ?_
    refine jGoto C 14 (by decide +kernel : decode cX2_lastTold 124 = .ok (.goto (-110), 3)) rfl ?_
    refine jSub [2, 3, 4, 0] rfl ?_
    exact hk14 (v3 + (-1)) S h
  · have h := it2 h c1
    refine jB C [(.iload 7, 2, 0)] 120 [(7, .int u0), (0, .ref (b + v0)), (1, .ref (b + v1)), (2, .int v2), (3, .int v3)] [.int u0] (by decide +kernel) rfl rfl ?_
    exact jRetI C (by decide +kernel : decode cX2_lastTold 120 = .ok (.ireturn, 1)) (Nat.le_refl _) (Nat.le_refl _) ⟨rfl, h⟩
set_option maxHeartbeats 4000000 in
set_option maxRecDepth 100000 in
theorem j_X2_lastTold_84 {p : Program} {l : Launch} {e : Env} {s : State} {m : MethodId} {args : Array Value} {below : List Frame} {meth : Method} {c : Code} {b : Nat} {D : va_G} {cy : Nat → ClassId} {G : Gm} {k14 : Int32 → St → Prop} {v0 : Nat} {v1 : Nat} {v2 : Int32} {v3 : Int32} {v4 : Int32} {v5 : Int32} {S : St} {Q : Int32 → St → Prop} (C : CX p s m args meth c b D cy cX2_lastTold RX2 8 (some .int)) (hE : s.heap.size + 0 ≤ b + G.2.2) (t_v0 : ok G 2 v0) (t_v1 : ok G 7 v1) (hk14 : ∀ v3' S, k14 v3' S → J p l e rm_X2_lastTold s m args below meth c b D cy 8 (zI b D cy below args s G Q) 0 0 G S 14 [(0, .ref (b + v0)), (1, .ref (b + v1)), (2, .int v2), (3, .int (v3'))] []) (h : f_X2_lastTold_84 G k14 v0 v1 v2 v3 v4 v5 Q S) : J p l e rm_X2_lastTold s m args below meth c b D cy 8 (zI b D cy below args s G Q) 0 0 G S 84 [(0, .ref (b + v0)), (1, .ref (b + v1)), (2, .int v2), (3, .int v3), (4, .int v4), (5, .int v5)] [] := by
  unfold f_X2_lastTold_84 at h
  refine jB C [(.iload_n 2, 1, 0), (.iconst 3, 1, 3)] 86 [(0, .ref (b + v0)), (1, .ref (b + v1)), (2, .int v2), (3, .int v3), (4, .int v4), (5, .int v5)] [.int 3, .int v2] (by decide +kernel) rfl rfl ?_
  refine jIcmp_ne C 89 93 (by decide +kernel : decode cX2_lastTold 86 = .ok (.if_icmp .ne 7, 3)) rfl rfl (fun c1 => ?_) (fun c1 => ?_)
  · have h := it2 h c1
    refine jB C [(.aload_n 0, 1, 0)] 94 [(0, .ref (b + v0)), (1, .ref (b + v1)), (2, .int v2), (3, .int v3), (4, .int v4), (5, .int v5)] [.ref (b + v0)] (by decide +kernel) rfl rfl ?_
    obtain ⟨a2, e_a2, h⟩ := h
    refine jGetR C 97 (by decide +kernel : decode cX2_lastTold 94 = .ok (.getfield 18, 3)) rfl t_v0 kX2 1 (by decide) rfl rfl (by decide) wd_118 e_a2 rfl (fun t_a2 => ?_)
    refine jB C [(.aload_n 1, 1, 0), (.iload 4, 2, 0), (.iload 5, 2, 0), (.aload_n 0, 1, 0)] 103 [(0, .ref (b + v0)), (1, .ref (b + v1)), (2, .int v2), (3, .int v3), (4, .int v4), (5, .int v5)] [.ref (b + v0), .int v5, .int v4, .ref (b + v1), .ref (b + a2)] (by decide +kernel) rfl rfl ?_
    obtain ⟨a3, e_a3, h⟩ := h
    refine jGetR C 106 (by decide +kernel : decode cX2_lastTold 103 = .ok (.getfield 9, 3)) rfl t_v0 kX2 0 (by decide) rfl rfl (by decide) wd_117 e_a3 rfl (fun t_a3 => ?_)
    refine jcVN_I C 109 (rest := []) (ok_X7_worth t_a2 t_v1 t_a3 h) (by decide +kernel : decode cX2_lastTold 106 = .ok (.invokevirtual 82, 3)) rfl wn_470 wd_472 wp_21 wd_5 wd_473 ⟨rfl, rfl⟩ hd_X7_worth ⟨Nat.le_of_ble_eq_true rfl, Nat.le_of_ble_eq_true rfl⟩ t_a2 kX7 (by decide) rfl rfl rfl (Nat.le_of_ble_eq_true rfl) ⟨Nat.zero_le _, Nat.zero_le _⟩ (fun r5 S4 h => ?_)
    refine jSub [0, 1, 2, 3] rfl ?_
    exact j_X2_lastTold_109 C hE t_v0 t_v1 hk14 h
  · have h := it1 h c1
    refine jB C [(.iconst 1, 1, 1)] 90 [(0, .ref (b + v0)), (1, .ref (b + v1)), (2, .int v2), (3, .int v3), (4, .int v4), (5, .int v5)] [.int 1] (by decide +kernel) rfl rfl ?_
    refine jGoto C 109 (by decide +kernel : decode cX2_lastTold 90 = .ok (.goto 19, 3)) rfl ?_
    refine jSub [0, 1, 2, 3] rfl ?_
    exact j_X2_lastTold_109 C hE t_v0 t_v1 hk14 h
set_option maxHeartbeats 4000000 in
set_option maxRecDepth 100000 in
theorem j_X2_lastTold_14_n {p : Program} {l : Launch} {e : Env} {s : State} {m : MethodId} {args : Array Value} {below : List Frame} {meth : Method} {c : Code} {b : Nat} {D : va_G} {cy : Nat → ClassId} {G : Gm} {v0 : Nat} {v1 : Nat} {v2 : Int32} {Q : Int32 → St → Prop} (C : CX p s m args meth c b D cy cX2_lastTold RX2 8 (some .int)) (hE : s.heap.size + 0 ≤ b + G.2.2) (t_v0 : ok G 2 v0) (t_v1 : ok G 7 v1) : ∀ k (v3 : Int32) S, f_X2_lastTold_14_n G v0 v1 v2 Q k v3 S → J p l e rm_X2_lastTold s m args below meth c b D cy 8 (zI b D cy below args s G Q) 0 0 G S 14 [(0, .ref (b + v0)), (1, .ref (b + v1)), (2, .int v2), (3, .int v3)] [] := by
  intro k
  induction k with
  | zero => intro v3 S h; exact h.elim
  | succ k ih =>
    intro v3 S h
    unfold f_X2_lastTold_14_n at h
    refine jB C [(.iload_n 3, 1, 0)] 15 [(0, .ref (b + v0)), (1, .ref (b + v1)), (2, .int v2), (3, .int v3)] [.int v3] (by decide +kernel) rfl rfl ?_
    refine jIf_lt C 18 127 (by decide +kernel : decode cX2_lastTold 15 = .ok (.ifCond .lt 112, 3)) rfl rfl (fun c1 => ?_) (fun c1 => ?_)
    · have h := it1 h c1
      refine jLdc C 129 (by decide +kernel : decode cX2_lastTold 127 = .ok (.ldc 30, 2)) rfl wd_461 ?_
      exact jRetI C (by decide +kernel : decode cX2_lastTold 129 = .ok (.ireturn, 1)) (Nat.le_refl _) (Nat.le_refl _) ⟨rfl, h⟩
    · have h := it2 h c1
      refine jB C [(.aload_n 1, 1, 0), (.iload_n 3, 1, 0)] 20 [(0, .ref (b + v0)), (1, .ref (b + v1)), (2, .int v2), (3, .int v3)] [.int v3, .ref (b + v1)] (by decide +kernel) rfl rfl ?_
      refine jcVN_I C 23 (rest := []) (ok_X8_verbOf t_v1 h) (by decide +kernel : decode cX2_lastTold 20 = .ok (.invokevirtual 76, 3)) rfl wn_462 wd_464 wp_19 wd_10 wd_465 ⟨rfl, rfl⟩ hd_X8_verbOf ⟨Nat.le_of_ble_eq_true rfl, Nat.le_of_ble_eq_true rfl⟩ t_v1 kX8 (by decide) rfl rfl rfl (Nat.le_of_ble_eq_true rfl) ⟨Nat.zero_le _, Nat.zero_le _⟩ (fun r3 S2 h => ?_)
      refine jB C [(.iload_n 2, 1, 0)] 24 [(0, .ref (b + v0)), (1, .ref (b + v1)), (2, .int v2), (3, .int v3)] [.int v2, .int r3] (by decide +kernel) rfl rfl ?_
      refine jIcmp_eq C 27 30 (by decide +kernel : decode cX2_lastTold 24 = .ok (.if_icmp .eq 6, 3)) rfl rfl (fun c4 => ?_) (fun c4 => ?_)
      · have h := it1 h c4
        refine jB C [(.aload_n 1, 1, 0), (.iload_n 3, 1, 0), (.iconst 0, 1, 0)] 33 [(0, .ref (b + v0)), (1, .ref (b + v1)), (2, .int v2), (3, .int v3)] [.int 0, .int v3, .ref (b + v1)] (by decide +kernel) rfl rfl ?_
        refine jcVN_I C 36 (rest := []) (ok_X8_markOf t_v1 h) (by decide +kernel : decode cX2_lastTold 33 = .ok (.invokevirtual 79, 3)) rfl wn_466 wd_468 wp_20 wd_10 wd_469 ⟨rfl, rfl⟩ hd_X8_markOf ⟨Nat.le_of_ble_eq_true rfl, Nat.le_of_ble_eq_true rfl⟩ t_v1 kX8 (by decide) rfl rfl rfl (Nat.le_of_ble_eq_true rfl) ⟨Nat.zero_le _, Nat.zero_le _⟩ (fun r6 S5 h => ?_)
        refine jB C [(.istore 4, 2, 0), (.aload_n 1, 1, 0), (.iload_n 3, 1, 0), (.iconst 2, 1, 2)] 41 [(4, .int r6), (0, .ref (b + v0)), (1, .ref (b + v1)), (2, .int v2), (3, .int v3)] [.int 2, .int v3, .ref (b + v1)] (by decide +kernel) rfl rfl ?_
        refine jcVN_I C 44 (rest := []) (ok_X8_markOf t_v1 h) (by decide +kernel : decode cX2_lastTold 41 = .ok (.invokevirtual 79, 3)) rfl wn_466 wd_468 wp_20 wd_10 wd_469 ⟨rfl, rfl⟩ hd_X8_markOf ⟨Nat.le_of_ble_eq_true rfl, Nat.le_of_ble_eq_true rfl⟩ t_v1 kX8 (by decide) rfl rfl rfl (Nat.le_of_ble_eq_true rfl) ⟨Nat.zero_le _, Nat.zero_le _⟩ (fun r8 S7 h => ?_)
        refine jB C [(.istore 5, 2, 0), (.aload_n 1, 1, 0), (.iload_n 3, 1, 0), (.iconst 3, 1, 3)] 49 [(5, .int r8), (4, .int r6), (0, .ref (b + v0)), (1, .ref (b + v1)), (2, .int v2), (3, .int v3)] [.int 3, .int v3, .ref (b + v1)] (by decide +kernel) rfl rfl ?_
        refine jcVN_I C 52 (rest := []) (ok_X8_markOf t_v1 h) (by decide +kernel : decode cX2_lastTold 49 = .ok (.invokevirtual 79, 3)) rfl wn_466 wd_468 wp_20 wd_10 wd_469 ⟨rfl, rfl⟩ hd_X8_markOf ⟨Nat.le_of_ble_eq_true rfl, Nat.le_of_ble_eq_true rfl⟩ t_v1 kX8 (by decide) rfl rfl rfl (Nat.le_of_ble_eq_true rfl) ⟨Nat.zero_le _, Nat.zero_le _⟩ (fun r10 S9 h => ?_)
        refine jB C [(.istore 6, 2, 0), (.iload 5, 2, 0), (.iload 6, 2, 0)] 58 [(6, .int r10), (5, .int r8), (4, .int r6), (0, .ref (b + v0)), (1, .ref (b + v1)), (2, .int v2), (3, .int v3)] [.int r10, .int r8] (by decide +kernel) rfl rfl ?_
        refine jIcmp_ge C 61 84 (by decide +kernel : decode cX2_lastTold 58 = .ok (.if_icmp .ge 26, 3)) rfl rfl (fun c11 => ?_) (fun c11 => ?_)
        · have h := it1 h c11
          refine jSub [3, 4, 5, 6, 2, 1] rfl ?_
          exact j_X2_lastTold_84 C hE t_v0 t_v1 ih h
        · have h := it2 h c11
          refine jB C [(.aload_n 0, 1, 0)] 62 [(6, .int r10), (5, .int r8), (4, .int r6), (0, .ref (b + v0)), (1, .ref (b + v1)), (2, .int v2), (3, .int v3)] [.ref (b + v0)] (by decide +kernel) rfl rfl ?_
          obtain ⟨a12, e_a12, h⟩ := h
          refine jGetR C 65 (by decide +kernel : decode cX2_lastTold 62 = .ok (.getfield 18, 3)) rfl t_v0 kX2 1 (by decide) rfl rfl (by decide) wd_118 e_a12 rfl (fun t_a12 => ?_)
          refine jB C [(.aload_n 1, 1, 0), (.iload 5, 2, 0), (.iload 6, 2, 0), (.aload_n 0, 1, 0)] 71 [(6, .int r10), (5, .int r8), (4, .int r6), (0, .ref (b + v0)), (1, .ref (b + v1)), (2, .int v2), (3, .int v3)] [.ref (b + v0), .int r10, .int r8, .ref (b + v1), .ref (b + a12)] (by decide +kernel) rfl rfl ?_
          obtain ⟨a13, e_a13, h⟩ := h
          refine jGetR C 74 (by decide +kernel : decode cX2_lastTold 71 = .ok (.getfield 9, 3)) rfl t_v0 kX2 0 (by decide) rfl rfl (by decide) wd_117 e_a13 rfl (fun t_a13 => ?_)
          refine jcVN_I C 77 (rest := []) (ok_X7_worth t_a12 t_v1 t_a13 h) (by decide +kernel : decode cX2_lastTold 74 = .ok (.invokevirtual 82, 3)) rfl wn_470 wd_472 wp_21 wd_5 wd_473 ⟨rfl, rfl⟩ hd_X7_worth ⟨Nat.le_of_ble_eq_true rfl, Nat.le_of_ble_eq_true rfl⟩ t_a12 kX7 (by decide) rfl rfl rfl (Nat.le_of_ble_eq_true rfl) ⟨Nat.zero_le _, Nat.zero_le _⟩ (fun r15 S14 h => ?_)
          refine jB C [(.iconst 1, 1, 1)] 78 [(6, .int r10), (5, .int r8), (4, .int r6), (0, .ref (b + v0)), (1, .ref (b + v1)), (2, .int v2), (3, .int v3)] [.int 1, .int r15] (by decide +kernel) rfl rfl ?_
          refine jIcmp_eq C 81 84 (by decide +kernel : decode cX2_lastTold 78 = .ok (.if_icmp .eq 6, 3)) rfl rfl (fun c16 => ?_) (fun c16 => ?_)
          · have h := it1 h c16
            refine jSub [3, 4, 5, 6, 2, 1] rfl ?_
            exact j_X2_lastTold_84 C hE t_v0 t_v1 ih h
          · have h := it2 h c16
            refine jGoto C 121 (by decide +kernel : decode cX2_lastTold 81 = .ok (.goto 40, 3)) rfl ?_
            refine jB C [(.iinc 3 (-1), 3, (-1))] 124 [(3, .int (v3 + (-1))), (6, .int r10), (5, .int r8), (4, .int r6), (0, .ref (b + v0)), (1, .ref (b + v1)), (2, .int v2)] [] (by decide +kernel) rfl rfl ?_
            refine jGoto C 14 (by decide +kernel : decode cX2_lastTold 124 = .ok (.goto (-110), 3)) rfl ?_
            refine jSub [4, 5, 6, 0] rfl ?_
            exact ih (v3 + (-1)) S14 h
      · have h := it2 h c4
        refine jGoto C 121 (by decide +kernel : decode cX2_lastTold 27 = .ok (.goto 94, 3)) rfl ?_
        refine jB C [(.iinc 3 (-1), 3, (-1))] 124 [(3, .int (v3 + (-1))), (0, .ref (b + v0)), (1, .ref (b + v1)), (2, .int v2)] [] (by decide +kernel) rfl rfl ?_
        refine jGoto C 14 (by decide +kernel : decode cX2_lastTold 124 = .ok (.goto (-110), 3)) rfl ?_
        refine jSub [1, 2, 3, 0] rfl ?_
        exact ih (v3 + (-1)) S2 h
theorem j_X2_lastTold_14 {p : Program} {l : Launch} {e : Env} {s : State} {m : MethodId} {args : Array Value} {below : List Frame} {meth : Method} {c : Code} {b : Nat} {D : va_G} {cy : Nat → ClassId} {G : Gm} {v0 : Nat} {v1 : Nat} {v2 : Int32} {v3 : Int32} {S : St} {Q : Int32 → St → Prop} (C : CX p s m args meth c b D cy cX2_lastTold RX2 8 (some .int)) (hE : s.heap.size + 0 ≤ b + G.2.2) (t_v0 : ok G 2 v0) (t_v1 : ok G 7 v1) (h : f_X2_lastTold_14 G v0 v1 v2 Q v3 S) : J p l e rm_X2_lastTold s m args below meth c b D cy 8 (zI b D cy below args s G Q) 0 0 G S 14 [(0, .ref (b + v0)), (1, .ref (b + v1)), (2, .int v2), (3, .int v3)] [] := by
  obtain ⟨k, h⟩ := h
  exact j_X2_lastTold_14_n C hE t_v0 t_v1 k v3 S h
set_option maxHeartbeats 4000000 in
set_option maxRecDepth 100000 in
theorem j_X2_lastTold {p : Program} {l : Launch} {e : Env} {s : State} {m : MethodId} {args : Array Value} {below : List Frame} {meth : Method} {c : Code} {b : Nat} {D : va_G} {cy : Nat → ClassId} {G : Gm} {v0 : Nat} {v1 : Option Nat} {v2 : Int32} {S : St} {Q : Int32 → St → Prop} (C : CX p s m args meth c b D cy cX2_lastTold RX2 8 (some .int)) (hE : s.heap.size + 0 ≤ b + G.2.2) (t_v0 : ok G 2 v0) (t_v1 : ∀ z, v1 = some z → ok G 7 z) (h : f_X2_lastTold G v0 v1 v2 Q S) : J p l e rm_X2_lastTold s m args below meth c b D cy 8 (zI b D cy below args s G Q) 0 0 G S 0 [(0, .ref (b + v0)), (1, rv b v1), (2, .int v2)] [] := by
  unfold f_X2_lastTold at h
  refine jAloadQ_n C 1 (by decide +kernel : decode cX2_lastTold 0 = .ok (.aload_n 1, 1)) rfl 1 rfl ?_
  refine jIfnn C 4 7 (by decide +kernel : decode cX2_lastTold 1 = .ok (.ifnonnull 6, 3)) rfl rfl (fun a1 e_a1 => ?_) (fun e_a1 => ?_)
  · have t2 := t_v1 a1 e_a1
    replace h := h.1 a1 e_a1
    subst e_a1
    refine jB C [(.aload_n 1, 1, 0)] 8 [(0, .ref (b + v0)), (1, .ref (b + a1)), (2, .int v2)] [.ref (b + a1)] (by decide +kernel) rfl rfl ?_
    refine jGetIN C 11 (by decide +kernel : decode cX2_lastTold 8 = .ok (.getfield 70, 3)) rfl t2 kX8 5 (by decide) rfl rfl (by decide) wn_256 ?_
    refine jB C [(.iconst 1, 1, 1), (.isub, 1, 0)] 13 [(0, .ref (b + v0)), (1, .ref (b + a1)), (2, .int v2)] [.int ((S.1 a1 5) - 1)] (by decide +kernel) rfl rfl ?_
    refine jTopI (fun x3 e_x3 => ?_)
    have h := h x3 e_x3
    refine jB C [(.istore_n 3, 1, 0)] 14 [(3, .int x3), (0, .ref (b + v0)), (1, .ref (b + a1)), (2, .int v2)] [] (by decide +kernel) rfl rfl ?_
    refine jSub [1, 2, 3, 0] rfl ?_
    exact j_X2_lastTold_14 C hE t_v0 t2 h
  · replace h := h.2 e_a1
    subst e_a1
    refine jLdc C 6 (by decide +kernel : decode cX2_lastTold 4 = .ok (.ldc 30, 2)) rfl wd_461 ?_
    exact jRetI C (by decide +kernel : decode cX2_lastTold 6 = .ok (.ireturn, 1)) (Nat.le_refl _) (Nat.le_refl _) ⟨rfl, h⟩
theorem ok_X2_lastTold {G : Gm} {v0 : Nat} {v1 : Option Nat} {v2 : Int32} {S : St} {Q : Int32 → St → Prop}  (t_v0 : ok G 2 v0) (t_v1 : ∀ z, v1 = some z → ok G 7 z) (h : f_X2_lastTold G v0 v1 v2 Q S) : MT yX2_lastTold cX2_lastTold 8 (some .int) rm_X2_lastTold 0 0 (fun b => [.ref (b + v0), rv b v1, .int v2]) G S (QI (fun r G1 S1 => G1 = G ∧ Q r S1)) := MT.ofJ (by decide +kernel) (fun b => [(0, .ref (b + v0)), (1, rv b v1), (2, .int v2)]) (fun b => by cases v1 <;> rfl) (fun b => by cases v1 <;> exact Nat.le_of_ble_eq_true rfl) (fun l b D cy p e s m below meth c C hE hn => j_X2_lastTold C hE t_v0 t_v1 h)
theorem hd_X2_lastTold : yX2_lastTold.cls ≠ "java/lang/invoke/MethodHandle" ∧ yX2_lastTold.cls ≠ "java/lang/invoke/VarHandle" ∧ (parseMethodDescriptor yX2_lastTold.desc).map (fun d => d.parameters.length) = some 2 := by decide +kernel
abbrev rm_X10_nearest : Room := { frames := 1, cells := 0, slots := 0, locals := 30 }
set_option maxHeartbeats 4000000 in
set_option maxRecDepth 100000 in
theorem j_X10_nearest {p : Program} {l : Launch} {e : Env} {s : State} {m : MethodId} {args : Array Value} {below : List Frame} {meth : Method} {c : Code} {b : Nat} {D : va_G} {cy : Nat → ClassId} {G : Gm} {v0 : Int32} {v1 : Int32} {v2 : Int32} {S : St} {Q : Int32 → St → Prop} (C : CX p s m args meth c b D cy cX10_nearest RX10 3 (some .int)) (hE : s.heap.size + 0 ≤ b + G.2.2) (h : f_X10_nearest G v0 v1 v2 Q S) : J p l e rm_X10_nearest s m args below meth c b D cy 3 (zI b D cy below args s G Q) 0 0 G S 0 [(0, .int v0), (1, .int v1), (2, .int v2)] [] := by
  unfold f_X10_nearest at h
  refine jB C [(.iload_n 1, 1, 0), (.iload_n 2, 1, 0), (.iload_n 0, 1, 0)] 3 [(0, .int v0), (1, .int v1), (2, .int v2)] [.int v0, .int v2, .int v1] (by decide +kernel) rfl rfl ?_
  refine jMin C 6 (by decide +kernel : decode cX10_nearest 3 = .ok (.invokestatic 314, 3)) rfl wd_243 (Nat.le_of_ble_eq_true rfl) (Nat.le_of_ble_eq_true rfl) (Nat.le_of_ble_eq_true rfl) (Nat.zero_le _) (Nat.zero_le _) ?_
  refine jMax C 9 (by decide +kernel : decode cX10_nearest 6 = .ok (.invokestatic 319, 3)) rfl wd_246 (Nat.le_of_ble_eq_true rfl) (Nat.le_of_ble_eq_true rfl) (Nat.le_of_ble_eq_true rfl) (Nat.zero_le _) (Nat.zero_le _) ?_
  exact jRetI C (by decide +kernel : decode cX10_nearest 9 = .ok (.ireturn, 1)) (Nat.le_refl _) (Nat.le_refl _) ⟨rfl, h⟩
theorem ok_X10_nearest {G : Gm} {v0 : Int32} {v1 : Int32} {v2 : Int32} {S : St} {Q : Int32 → St → Prop}  (h : f_X10_nearest G v0 v1 v2 Q S) : MT yX10_nearest cX10_nearest 3 (some .int) rm_X10_nearest 0 0 (fun b => [.int v0, .int v1, .int v2]) G S (QI (fun r G1 S1 => G1 = G ∧ Q r S1)) := MT.ofJ (by decide +kernel) (fun b => [(0, .int v0), (1, .int v1), (2, .int v2)]) (fun b => rfl) (fun b => Nat.le_of_ble_eq_true rfl) (fun l b D cy p e s m below meth c C hE hn => j_X10_nearest C hE h)
theorem hd_X10_nearest : yX10_nearest.cls ≠ "java/lang/invoke/MethodHandle" ∧ yX10_nearest.cls ≠ "java/lang/invoke/VarHandle" ∧ (parseMethodDescriptor yX10_nearest.desc).map (fun d => d.parameters.length) = some 3 := by decide +kernel
abbrev rm_X2_deed : Room := { frames := 3, cells := 0, slots := 0, locals := 82 }
set_option maxHeartbeats 4000000 in
set_option maxRecDepth 100000 in
theorem j_X2_deed {p : Program} {l : Launch} {e : Env} {s : State} {m : MethodId} {args : Array Value} {below : List Frame} {meth : Method} {c : Code} {b : Nat} {D : va_G} {cy : Nat → ClassId} {G : Gm} {v0 : Nat} {v1 : Nat} {v2 : Int32} {v3 : Int32} {S : St} {Q : Int32 → St → Prop} (C : CX p s m args meth c b D cy cX2_deed RX2 5 (some .int)) (hE : s.heap.size + 0 ≤ b + G.2.2) (t_v0 : ok G 2 v0) (t_v1 : ok G 4 v1) (h : f_X2_deed G v0 v1 v2 v3 Q S) : J p l e rm_X2_deed s m args below meth c b D cy 5 (zI b D cy below args s G Q) 0 0 G S 0 [(0, .ref (b + v0)), (1, .ref (b + v1)), (2, .int v2), (3, .int v3)] [] := by
  unfold f_X2_deed at h
  refine jB C [(.aload_n 0, 1, 0), (.aload_n 1, 1, 0), (.iload_n 2, 1, 0), (.iload_n 3, 1, 0)] 4 [(0, .ref (b + v0)), (1, .ref (b + v1)), (2, .int v2), (3, .int v3)] [.int v3, .int v2, .ref (b + v1), .ref (b + v0)] (by decide +kernel) rfl rfl ?_
  refine jcV_V C 7 (rest := []) (ok_X2_aboutPerson t_v0 t_v1 h) (by decide +kernel : decode cX2_deed 4 = .ok (.invokevirtual 45, 3)) rfl wd_430 wd_432 wp_13 wd_4 wd_433 ⟨rfl, rfl⟩ hd_X2_aboutPerson ⟨Nat.le_of_ble_eq_true rfl, Nat.le_of_ble_eq_true rfl⟩ t_v0 kX2 (by decide) rfl rfl rfl (Nat.le_of_ble_eq_true rfl) ⟨Nat.zero_le _, Nat.zero_le _⟩ (fun S1 h => ?_)
  refine jB C [(.aload_n 0, 1, 0), (.aload_n 1, 1, 0)] 9 [(0, .ref (b + v0)), (1, .ref (b + v1)), (2, .int v2), (3, .int v3)] [.ref (b + v1), .ref (b + v0)] (by decide +kernel) rfl rfl ?_
  refine jcVN_O C 12 (rest := [.ref (b + v0)]) (ok_X5_lawInForce t_v1 h) (by decide +kernel : decode cX2_deed 9 = .ok (.invokevirtual 41, 3)) rfl wn_445 wd_447 wp_15 wd_2 wd_448 ⟨rfl, rfl⟩ hd_X5_lawInForce ⟨Nat.le_of_ble_eq_true rfl, Nat.le_of_ble_eq_true rfl⟩ t_v1 kX5 (by decide) rfl rfl rfl (Nat.le_of_ble_eq_true rfl) ⟨Nat.zero_le _, Nat.zero_le _⟩ (fun r3 S2 h => ?_)
  obtain ⟨t4, h⟩ := h
  refine jB C [(.iconst 2, 1, 2)] 13 [(0, .ref (b + v0)), (1, .ref (b + v1)), (2, .int v2), (3, .int v3)] [.int 2, rv b r3, .ref (b + v0)] (by decide +kernel) rfl rfl ?_
  refine jcV_I C 16 (rest := []) (ok_X2_lastTold t_v0 t4 h) (by decide +kernel : decode cX2_deed 13 = .ok (.invokevirtual 26, 3)) rfl wd_457 wd_459 wp_18 wd_4 wd_460 ⟨rfl, rfl⟩ hd_X2_lastTold ⟨Nat.le_of_ble_eq_true rfl, Nat.le_of_ble_eq_true rfl⟩ t_v0 kX2 (by decide) rfl rfl rfl (Nat.le_of_ble_eq_true rfl) ⟨Nat.zero_le _, Nat.zero_le _⟩ (fun r6 S5 h => ?_)
  refine jB C [(.istore 4, 2, 0), (.iload 4, 2, 0)] 20 [(4, .int r6), (0, .ref (b + v0)), (1, .ref (b + v1)), (2, .int v2), (3, .int v3)] [.int r6] (by decide +kernel) rfl rfl ?_
  refine jLdc C 22 (by decide +kernel : decode cX2_deed 20 = .ok (.ldc 30, 2)) rfl wd_461 ?_
  refine jIcmp_ne C 25 34 (by decide +kernel : decode cX2_deed 22 = .ok (.if_icmp .ne 12, 3)) rfl rfl (fun c7 => ?_) (fun c7 => ?_)
  · have h := it2 h c7
    refine jB C [(.iload 4, 2, 0), (.iconst 0, 1, 0), (.iconst 3, 1, 3)] 38 [(4, .int r6), (0, .ref (b + v0)), (1, .ref (b + v1)), (2, .int v2), (3, .int v3)] [.int 3, .int 0, .int r6] (by decide +kernel) rfl rfl ?_
    refine jcSN_I C 41 (rest := []) (ok_X10_nearest h) (by decide +kernel : decode cX2_deed 38 = .ok (.invokestatic 31, 3)) rfl wn_484 wd_241 wd_1 wd_242 ⟨rfl, rfl⟩ hd_X10_nearest ⟨Nat.le_of_ble_eq_true rfl, Nat.le_of_ble_eq_true rfl⟩ rfl rfl (Nat.le_of_ble_eq_true rfl) ⟨Nat.zero_le _, Nat.zero_le _⟩ (fun r9 S8 h => ?_)
    exact jRetI C (by decide +kernel : decode cX2_deed 41 = .ok (.ireturn, 1)) (Nat.le_refl _) (Nat.le_refl _) ⟨rfl, h⟩
  · have h := it1 h c7
    refine jB C [(.iload_n 3, 1, 0)] 26 [(4, .int r6), (0, .ref (b + v0)), (1, .ref (b + v1)), (2, .int v2), (3, .int v3)] [.int v3] (by decide +kernel) rfl rfl ?_
    refine jcSN_I C 29 (rest := []) (ok_X3_litCells h) (by decide +kernel : decode cX2_deed 26 = .ok (.invokestatic 48, 3)) rfl wn_438 wd_439 wd_13 wd_440 ⟨rfl, rfl⟩ hd_X3_litCells ⟨Nat.le_of_ble_eq_true rfl, Nat.le_of_ble_eq_true rfl⟩ rfl rfl (Nat.le_of_ble_eq_true rfl) ⟨Nat.zero_le _, Nat.zero_le _⟩ (fun r11 S10 h => ?_)
    refine jB C [(.iconst 4, 1, 4)] 30 [(4, .int r6), (0, .ref (b + v0)), (1, .ref (b + v1)), (2, .int v2), (3, .int v3)] [.int 4, .int r11] (by decide +kernel) rfl rfl ?_
    refine jIrem C 31 (by decide +kernel : decode cX2_deed 30 = .ok (.irem, 1)) rfl (by decide) ?_
    refine jGoto C 41 (by decide +kernel : decode cX2_deed 31 = .ok (.goto 10, 3)) rfl ?_
    exact jRetI C (by decide +kernel : decode cX2_deed 41 = .ok (.ireturn, 1)) (Nat.le_refl _) (Nat.le_refl _) ⟨rfl, h⟩
theorem ok_X2_deed {G : Gm} {v0 : Nat} {v1 : Nat} {v2 : Int32} {v3 : Int32} {S : St} {Q : Int32 → St → Prop}  (t_v0 : ok G 2 v0) (t_v1 : ok G 4 v1) (h : f_X2_deed G v0 v1 v2 v3 Q S) : MT yX2_deed cX2_deed 5 (some .int) rm_X2_deed 0 0 (fun b => [.ref (b + v0), .ref (b + v1), .int v2, .int v3]) G S (QI (fun r G1 S1 => G1 = G ∧ Q r S1)) := MT.ofJ (by decide +kernel) (fun b => [(0, .ref (b + v0)), (1, .ref (b + v1)), (2, .int v2), (3, .int v3)]) (fun b => rfl) (fun b => Nat.le_of_ble_eq_true rfl) (fun l b D cy p e s m below meth c C hE hn => j_X2_deed C hE t_v0 t_v1 h)
theorem hd_X2_deed : yX2_deed.cls ≠ "java/lang/invoke/MethodHandle" ∧ yX2_deed.cls ≠ "java/lang/invoke/VarHandle" ∧ (parseMethodDescriptor yX2_deed.desc).map (fun d => d.parameters.length) = some 3 := by decide +kernel
abbrev rm_X0_learnWords : Room := { frames := 4, cells := 0, slots := 0, locals := 106 }
set_option maxHeartbeats 4000000 in
set_option maxRecDepth 100000 in
theorem j_X0_learnWords_146 {p : Program} {l : Launch} {e : Env} {s : State} {m : MethodId} {args : Array Value} {below : List Frame} {meth : Method} {c : Code} {b : Nat} {D : va_G} {cy : Nat → ClassId} {G : Gm} {k44 : Int32 → St → Prop} {v0 : Nat} {v1 : Int32} {v2 : Nat} {v3 : Int32} {u0 : Int32} {u1 : Int32} {u2 : Nat} {S : St} {Q : St → Prop} (C : CX p s m args meth c b D cy cX0_learnWords RX0 6 none) (hE : s.heap.size + 0 ≤ b + G.2.2) (t_v0 : ok G 0 v0) (t_v2 : ok G 4 v2) (t_u2 : ok G 11 u2) (hk44 : ∀ v3' S, k44 v3' S → J p l e rm_X0_learnWords s m args below meth c b D cy 6 (zV b D cy below args s G Q) 0 0 G S 44 [(0, .ref (b + v0)), (1, .int v1), (2, .ref (b + v2)), (3, .int (v3'))] []) (h : f_X0_learnWords_146 G k44 v0 v1 v2 v3 u0 u1 u2 Q S) : J p l e rm_X0_learnWords s m args below meth c b D cy 6 (zV b D cy below args s G Q) 0 0 G S 146 [(0, .ref (b + v0)), (1, .int v1), (2, .ref (b + v2)), (3, .int v3)] [.int u0, .int u1, .ref (b + u2)] := by
  unfold f_X0_learnWords_146 at h
  obtain ⟨y1, h⟩ := h
  refine jIast C 147 (by decide +kernel : decode cX0_learnWords 146 = .ok (.iastore, 1)) rfl hE t_u2 y1 ?_
  refine jTopS (fun S2 e_S2 => ?_)
  have h := h S2 e_S2
  refine jB C [(.iinc 3 1, 3, 1)] 150 [(3, .int (v3 + 1)), (0, .ref (b + v0)), (1, .int v1), (2, .ref (b + v2))] [] (by decide +kernel) rfl rfl ?_
  refine jGoto C 44 (by decide +kernel : decode cX0_learnWords 150 = .ok (.goto (-106), 3)) rfl ?_
  refine jSub [1, 2, 3, 0] rfl ?_
  exact hk44 (v3 + 1) S2 h
set_option maxHeartbeats 4000000 in
set_option maxRecDepth 100000 in
theorem j_X0_learnWords_105 {p : Program} {l : Launch} {e : Env} {s : State} {m : MethodId} {args : Array Value} {below : List Frame} {meth : Method} {c : Code} {b : Nat} {D : va_G} {cy : Nat → ClassId} {G : Gm} {k44 : Int32 → St → Prop} {v0 : Nat} {v1 : Int32} {v2 : Nat} {v3 : Int32} {v4 : Int32} {v5 : Int32} {u0 : Int32} {u1 : Int32} {u2 : Nat} {S : St} {Q : St → Prop} (C : CX p s m args meth c b D cy cX0_learnWords RX0 6 none) (hE : s.heap.size + 0 ≤ b + G.2.2) (t_v0 : ok G 0 v0) (t_v2 : ok G 4 v2) (t_u2 : ok G 11 u2) (hk44 : ∀ v3' S, k44 v3' S → J p l e rm_X0_learnWords s m args below meth c b D cy 6 (zV b D cy below args s G Q) 0 0 G S 44 [(0, .ref (b + v0)), (1, .int v1), (2, .ref (b + v2)), (3, .int (v3'))] []) (h : f_X0_learnWords_105 G k44 v0 v1 v2 v3 v4 v5 u0 u1 u2 Q S) : J p l e rm_X0_learnWords s m args below meth c b D cy 6 (zV b D cy below args s G Q) 0 0 G S 105 [(0, .ref (b + v0)), (1, .int v1), (2, .ref (b + v2)), (3, .int v3), (4, .int v4), (5, .int v5)] [.int u0, .int u1, .ref (b + u2)] := by
  unfold f_X0_learnWords_105 at h
  obtain ⟨y1, h⟩ := h
  refine jIast C 106 (by decide +kernel : decode cX0_learnWords 105 = .ok (.iastore, 1)) rfl hE t_u2 y1 ?_
  refine jTopS (fun S2 e_S2 => ?_)
  have h := h S2 e_S2
  refine jB C [(.iload_n 1, 1, 0), (.bipush 16, 2, 16), (.iload_n 3, 1, 0), (.iadd, 1, 0), (.ishr, 1, 0), (.iconst 1, 1, 1), (.iand, 1, 0), (.iconst 1, 1, 1)] 115 [(0, .ref (b + v0)), (1, .int v1), (2, .ref (b + v2)), (3, .int v3), (4, .int v4), (5, .int v5)] [.int 1, .int ((v1 >>> (((16 + v3) : Int32) &&& 31)) &&& 1)] (by decide +kernel) rfl rfl ?_
  refine jIcmp_ne C 118 147 (by decide +kernel : decode cX0_learnWords 115 = .ok (.if_icmp .ne 32, 3)) rfl rfl (fun c3 => ?_) (fun c3 => ?_)
  · have h := it2 h c3
    refine jB C [(.iinc 3 1, 3, 1)] 150 [(3, .int (v3 + 1)), (0, .ref (b + v0)), (1, .int v1), (2, .ref (b + v2)), (4, .int v4), (5, .int v5)] [] (by decide +kernel) rfl rfl ?_
    refine jGoto C 44 (by decide +kernel : decode cX0_learnWords 150 = .ok (.goto (-106), 3)) rfl ?_
    refine jSub [1, 2, 3, 0] rfl ?_
    exact hk44 (v3 + 1) S2 h
  · have h := it1 h c3
    refine jB C [(.aload_n 0, 1, 0)] 119 [(0, .ref (b + v0)), (1, .int v1), (2, .ref (b + v2)), (3, .int v3), (4, .int v4), (5, .int v5)] [.ref (b + v0)] (by decide +kernel) rfl rfl ?_
    obtain ⟨a4, e_a4, h⟩ := h
    refine jGetR C 122 (by decide +kernel : decode cX0_learnWords 119 = .ok (.getfield 46, 3)) rfl t_v0 kX0 5 (by decide) rfl rfl (by decide) wd_160 e_a4 rfl (fun t_a4 => ?_)
    refine jB C [(.bipush 16, 2, 16), (.iload_n 3, 1, 0), (.iadd, 1, 0), (.iload 4, 2, 0)] 128 [(0, .ref (b + v0)), (1, .int v1), (2, .ref (b + v2)), (3, .int v3), (4, .int v4), (5, .int v5)] [.int v4, .int (16 + v3), .ref (b + a4)] (by decide +kernel) rfl rfl ?_
    refine jIf_eq C 131 145 (by decide +kernel : decode cX0_learnWords 128 = .ok (.ifCond .eq 17, 3)) rfl rfl (fun c5 => ?_) (fun c5 => ?_)
    · have h := it1 h c5
      refine jB C [(.iconst (-1), 1, (-1))] 146 [(0, .ref (b + v0)), (1, .int v1), (2, .ref (b + v2)), (3, .int v3), (4, .int v4), (5, .int v5)] [.int (-1), .int (16 + v3), .ref (b + a4)] (by decide +kernel) rfl rfl ?_
      refine jSub [0, 1, 2, 3] rfl ?_
      exact j_X0_learnWords_146 C hE t_v0 t_v2 t_a4 hk44 h
    · have h := it2 h c5
      refine jB C [(.aload_n 0, 1, 0)] 132 [(0, .ref (b + v0)), (1, .int v1), (2, .ref (b + v2)), (3, .int v3), (4, .int v4), (5, .int v5)] [.ref (b + v0), .int (16 + v3), .ref (b + a4)] (by decide +kernel) rfl rfl ?_
      obtain ⟨a6, e_a6, h⟩ := h
      refine jGetR C 135 (by decide +kernel : decode cX0_learnWords 132 = .ok (.getfield 28, 3)) rfl t_v0 kX0 2 (by decide) rfl rfl (by decide) wd_157 e_a6 rfl (fun t_a6 => ?_)
      refine jB C [(.aload_n 2, 1, 0), (.iload_n 3, 1, 0), (.iload 5, 2, 0)] 139 [(0, .ref (b + v0)), (1, .int v1), (2, .ref (b + v2)), (3, .int v3), (4, .int v4), (5, .int v5)] [.int v5, .int v3, .ref (b + v2), .ref (b + a6), .int (16 + v3), .ref (b + a4)] (by decide +kernel) rfl rfl ?_
      refine jcVN_I C 142 (rest := [.int (16 + v3), .ref (b + a4)]) (ok_X2_deed t_a6 t_v2 h) (by decide +kernel : decode cX0_learnWords 139 = .ok (.invokevirtual 103, 3)) rfl wn_810 wd_428 wp_12 wd_4 wd_429 ⟨rfl, rfl⟩ hd_X2_deed ⟨Nat.le_of_ble_eq_true rfl, Nat.le_of_ble_eq_true rfl⟩ t_a6 kX2 (by decide) rfl rfl rfl (Nat.le_of_ble_eq_true rfl) ⟨Nat.zero_le _, Nat.zero_le _⟩ (fun r8 S7 h => ?_)
      refine jGoto C 146 (by decide +kernel : decode cX0_learnWords 142 = .ok (.goto 4, 3)) rfl ?_
      refine jSub [0, 1, 2, 3] rfl ?_
      exact j_X0_learnWords_146 C hE t_v0 t_v2 t_a4 hk44 h
set_option maxHeartbeats 4000000 in
set_option maxRecDepth 100000 in
theorem j_X0_learnWords_85 {p : Program} {l : Launch} {e : Env} {s : State} {m : MethodId} {args : Array Value} {below : List Frame} {meth : Method} {c : Code} {b : Nat} {D : va_G} {cy : Nat → ClassId} {G : Gm} {k44 : Int32 → St → Prop} {v0 : Nat} {v1 : Int32} {v2 : Nat} {v3 : Int32} {v4 : Int32} {v5 : Int32} {u0 : Int32} {u1 : Int32} {u2 : Nat} {S : St} {Q : St → Prop} (C : CX p s m args meth c b D cy cX0_learnWords RX0 6 none) (hE : s.heap.size + 0 ≤ b + G.2.2) (t_v0 : ok G 0 v0) (t_v2 : ok G 4 v2) (t_u2 : ok G 11 u2) (hk44 : ∀ v3' S, k44 v3' S → J p l e rm_X0_learnWords s m args below meth c b D cy 6 (zV b D cy below args s G Q) 0 0 G S 44 [(0, .ref (b + v0)), (1, .int v1), (2, .ref (b + v2)), (3, .int (v3'))] []) (h : f_X0_learnWords_85 G k44 v0 v1 v2 v3 v4 v5 u0 u1 u2 Q S) : J p l e rm_X0_learnWords s m args below meth c b D cy 6 (zV b D cy below args s G Q) 0 0 G S 85 [(0, .ref (b + v0)), (1, .int v1), (2, .ref (b + v2)), (3, .int v3), (4, .int v4), (5, .int v5)] [.int u0, .int u1, .ref (b + u2)] := by
  unfold f_X0_learnWords_85 at h
  obtain ⟨y1, h⟩ := h
  refine jIast C 86 (by decide +kernel : decode cX0_learnWords 85 = .ok (.iastore, 1)) rfl hE t_u2 y1 ?_
  refine jTopS (fun S2 e_S2 => ?_)
  have h := h S2 e_S2
  refine jB C [(.aload_n 0, 1, 0)] 87 [(0, .ref (b + v0)), (1, .int v1), (2, .ref (b + v2)), (3, .int v3), (4, .int v4), (5, .int v5)] [.ref (b + v0)] (by decide +kernel) rfl rfl ?_
  obtain ⟨a3, e_a3, h⟩ := h
  refine jGetR C 90 (by decide +kernel : decode cX0_learnWords 87 = .ok (.getfield 46, 3)) rfl t_v0 kX0 5 (by decide) rfl rfl (by decide) wd_160 e_a3 rfl (fun t_a3 => ?_)
  refine jB C [(.bipush 10, 2, 10), (.iload_n 3, 1, 0), (.iadd, 1, 0), (.iload 4, 2, 0)] 96 [(0, .ref (b + v0)), (1, .int v1), (2, .ref (b + v2)), (3, .int v3), (4, .int v4), (5, .int v5)] [.int v4, .int (10 + v3), .ref (b + a3)] (by decide +kernel) rfl rfl ?_
  refine jIf_eq C 99 104 (by decide +kernel : decode cX0_learnWords 96 = .ok (.ifCond .eq 8, 3)) rfl rfl (fun c4 => ?_) (fun c4 => ?_)
  · have h := it1 h c4
    refine jB C [(.iconst (-1), 1, (-1))] 105 [(0, .ref (b + v0)), (1, .int v1), (2, .ref (b + v2)), (3, .int v3), (4, .int v4), (5, .int v5)] [.int (-1), .int (10 + v3), .ref (b + a3)] (by decide +kernel) rfl rfl ?_
    refine jSub [0, 1, 2, 3, 4, 5] rfl ?_
    exact j_X0_learnWords_105 C hE t_v0 t_v2 t_a3 hk44 h
  · have h := it2 h c4
    refine jB C [(.iload 5, 2, 0)] 101 [(0, .ref (b + v0)), (1, .int v1), (2, .ref (b + v2)), (3, .int v3), (4, .int v4), (5, .int v5)] [.int v5, .int (10 + v3), .ref (b + a3)] (by decide +kernel) rfl rfl ?_
    refine jGoto C 105 (by decide +kernel : decode cX0_learnWords 101 = .ok (.goto 4, 3)) rfl ?_
    refine jSub [0, 1, 2, 3, 4, 5] rfl ?_
    exact j_X0_learnWords_105 C hE t_v0 t_v2 t_a3 hk44 h
set_option maxHeartbeats 4000000 in
set_option maxRecDepth 100000 in
theorem j_X0_learnWords_44_n {p : Program} {l : Launch} {e : Env} {s : State} {m : MethodId} {args : Array Value} {below : List Frame} {meth : Method} {c : Code} {b : Nat} {D : va_G} {cy : Nat → ClassId} {G : Gm} {v0 : Nat} {v1 : Int32} {v2 : Nat} {Q : St → Prop} (C : CX p s m args meth c b D cy cX0_learnWords RX0 6 none) (hE : s.heap.size + 0 ≤ b + G.2.2) (t_v0 : ok G 0 v0) (t_v2 : ok G 4 v2) : ∀ k (v3 : Int32) S, f_X0_learnWords_44_n G v0 v1 v2 Q k v3 S → J p l e rm_X0_learnWords s m args below meth c b D cy 6 (zV b D cy below args s G Q) 0 0 G S 44 [(0, .ref (b + v0)), (1, .int v1), (2, .ref (b + v2)), (3, .int v3)] [] := by
  intro k
  induction k with
  | zero => intro v3 S h; exact h.elim
  | succ k ih =>
    intro v3 S h
    unfold f_X0_learnWords_44_n at h
    refine jB C [(.iload_n 3, 1, 0), (.bipush 6, 2, 6)] 47 [(0, .ref (b + v0)), (1, .int v1), (2, .ref (b + v2)), (3, .int v3)] [.int 6, .int v3] (by decide +kernel) rfl rfl ?_
    refine jIcmp_ge C 50 153 (by decide +kernel : decode cX0_learnWords 47 = .ok (.if_icmp .ge 106, 3)) rfl rfl (fun c1 => ?_) (fun c1 => ?_)
    · have h := it1 h c1
      exact jRetV C (by decide +kernel : decode cX0_learnWords 153 = .ok (.return_, 1)) (Nat.le_refl _) (Nat.le_refl _) ⟨rfl, h⟩
    · have h := it2 h c1
      refine jB C [(.aload_n 2, 1, 0), (.iload_n 3, 1, 0)] 52 [(0, .ref (b + v0)), (1, .int v1), (2, .ref (b + v2)), (3, .int v3)] [.int v3, .ref (b + v2)] (by decide +kernel) rfl rfl ?_
      refine jcVN_I C 55 (rest := []) (ok_X5_has t_v2 h) (by decide +kernel : decode cX0_learnWords 52 = .ok (.invokevirtual 93, 3)) rfl wn_807 wd_373 wp_4 wd_2 wd_374 ⟨rfl, rfl⟩ hd_X5_has ⟨Nat.le_of_ble_eq_true rfl, Nat.le_of_ble_eq_true rfl⟩ t_v2 kX5 (by decide) rfl rfl rfl (Nat.le_of_ble_eq_true rfl) ⟨Nat.zero_le _, Nat.zero_le _⟩ (fun r3 S2 h => ?_)
      refine jB C [(.istore 4, 2, 0), (.aload_n 2, 1, 0), (.iload_n 3, 1, 0)] 59 [(4, .int r3), (0, .ref (b + v0)), (1, .int v1), (2, .ref (b + v2)), (3, .int v3)] [.int v3, .ref (b + v2)] (by decide +kernel) rfl rfl ?_
      refine jcVN_I C 62 (rest := []) (ok_X5_sightOf t_v2 h) (by decide +kernel : decode cX0_learnWords 59 = .ok (.invokevirtual 97, 3)) rfl wn_808 wd_413 wp_10 wd_2 wd_414 ⟨rfl, rfl⟩ hd_X5_sightOf ⟨Nat.le_of_ble_eq_true rfl, Nat.le_of_ble_eq_true rfl⟩ t_v2 kX5 (by decide) rfl rfl rfl (Nat.le_of_ble_eq_true rfl) ⟨Nat.zero_le _, Nat.zero_le _⟩ (fun r5 S4 h => ?_)
      refine jB C [(.istore 5, 2, 0), (.aload_n 0, 1, 0)] 65 [(5, .int r5), (4, .int r3), (0, .ref (b + v0)), (1, .int v1), (2, .ref (b + v2)), (3, .int v3)] [.ref (b + v0)] (by decide +kernel) rfl rfl ?_
      obtain ⟨a6, e_a6, h⟩ := h
      refine jGetR C 68 (by decide +kernel : decode cX0_learnWords 65 = .ok (.getfield 46, 3)) rfl t_v0 kX0 5 (by decide) rfl rfl (by decide) wd_160 e_a6 rfl (fun t_a6 => ?_)
      refine jB C [(.iconst 4, 1, 4), (.iload_n 3, 1, 0), (.iadd, 1, 0), (.iload 4, 2, 0)] 73 [(5, .int r5), (4, .int r3), (0, .ref (b + v0)), (1, .int v1), (2, .ref (b + v2)), (3, .int v3)] [.int r3, .int (4 + v3), .ref (b + a6)] (by decide +kernel) rfl rfl ?_
      refine jIf_eq C 76 84 (by decide +kernel : decode cX0_learnWords 73 = .ok (.ifCond .eq 11, 3)) rfl rfl (fun c7 => ?_) (fun c7 => ?_)
      · have h := it1 h c7
        refine jB C [(.iconst (-1), 1, (-1))] 85 [(5, .int r5), (4, .int r3), (0, .ref (b + v0)), (1, .int v1), (2, .ref (b + v2)), (3, .int v3)] [.int (-1), .int (4 + v3), .ref (b + a6)] (by decide +kernel) rfl rfl ?_
        refine jSub [2, 3, 4, 5, 1, 0] rfl ?_
        exact j_X0_learnWords_85 C hE t_v0 t_v2 t_a6 ih h
      · have h := it2 h c7
        refine jB C [(.aload_n 2, 1, 0), (.iload_n 3, 1, 0)] 78 [(5, .int r5), (4, .int r3), (0, .ref (b + v0)), (1, .int v1), (2, .ref (b + v2)), (3, .int v3)] [.int v3, .ref (b + v2), .int (4 + v3), .ref (b + a6)] (by decide +kernel) rfl rfl ?_
        refine jcVN_I C 81 (rest := [.int (4 + v3), .ref (b + a6)]) (ok_X5_sinsOf t_v2 h) (by decide +kernel : decode cX0_learnWords 78 = .ok (.invokevirtual 100, 3)) rfl wn_809 wd_436 wp_14 wd_2 wd_437 ⟨rfl, rfl⟩ hd_X5_sinsOf ⟨Nat.le_of_ble_eq_true rfl, Nat.le_of_ble_eq_true rfl⟩ t_v2 kX5 (by decide) rfl rfl rfl (Nat.le_of_ble_eq_true rfl) ⟨Nat.zero_le _, Nat.zero_le _⟩ (fun r9 S8 h => ?_)
        refine jGoto C 85 (by decide +kernel : decode cX0_learnWords 81 = .ok (.goto 4, 3)) rfl ?_
        refine jSub [2, 3, 4, 5, 1, 0] rfl ?_
        exact j_X0_learnWords_85 C hE t_v0 t_v2 t_a6 ih h
theorem j_X0_learnWords_44 {p : Program} {l : Launch} {e : Env} {s : State} {m : MethodId} {args : Array Value} {below : List Frame} {meth : Method} {c : Code} {b : Nat} {D : va_G} {cy : Nat → ClassId} {G : Gm} {v0 : Nat} {v1 : Int32} {v2 : Nat} {v3 : Int32} {S : St} {Q : St → Prop} (C : CX p s m args meth c b D cy cX0_learnWords RX0 6 none) (hE : s.heap.size + 0 ≤ b + G.2.2) (t_v0 : ok G 0 v0) (t_v2 : ok G 4 v2) (h : f_X0_learnWords_44 G v0 v1 v2 Q v3 S) : J p l e rm_X0_learnWords s m args below meth c b D cy 6 (zV b D cy below args s G Q) 0 0 G S 44 [(0, .ref (b + v0)), (1, .int v1), (2, .ref (b + v2)), (3, .int v3)] [] := by
  obtain ⟨k, h⟩ := h
  exact j_X0_learnWords_44_n C hE t_v0 t_v2 k v3 S h
set_option maxHeartbeats 4000000 in
set_option maxRecDepth 100000 in
theorem j_X0_learnWords {p : Program} {l : Launch} {e : Env} {s : State} {m : MethodId} {args : Array Value} {below : List Frame} {meth : Method} {c : Code} {b : Nat} {D : va_G} {cy : Nat → ClassId} {G : Gm} {v0 : Nat} {v1 : Int32} {v2 : Nat} {S : St} {Q : St → Prop} (C : CX p s m args meth c b D cy cX0_learnWords RX0 6 none) (hE : s.heap.size + 0 ≤ b + G.2.2) (t_v0 : ok G 0 v0) (t_v2 : ok G 4 v2) (h : f_X0_learnWords G v0 v1 v2 Q S) : J p l e rm_X0_learnWords s m args below meth c b D cy 6 (zV b D cy below args s G Q) 0 0 G S 0 [(0, .ref (b + v0)), (1, .int v1), (2, .ref (b + v2))] [] := by
  unfold f_X0_learnWords at h
  refine jB C [(.aload_n 0, 1, 0)] 1 [(0, .ref (b + v0)), (1, .int v1), (2, .ref (b + v2))] [.ref (b + v0)] (by decide +kernel) rfl rfl ?_
  obtain ⟨a1, e_a1, h⟩ := h
  refine jGetR C 4 (by decide +kernel : decode cX0_learnWords 1 = .ok (.getfield 46, 3)) rfl t_v0 kX0 5 (by decide) rfl rfl (by decide) wd_160 e_a1 rfl (fun t_a1 => ?_)
  refine jB C [(.iconst 0, 1, 0), (.aload_n 2, 1, 0), (.iconst 0, 1, 0)] 7 [(0, .ref (b + v0)), (1, .int v1), (2, .ref (b + v2))] [.int 0, .ref (b + v2), .int 0, .ref (b + a1)] (by decide +kernel) rfl rfl ?_
  refine jcVN_I C 10 (rest := [.int 0, .ref (b + a1)]) (ok_X5_termOf t_v2 h) (by decide +kernel : decode cX0_learnWords 7 = .ok (.invokevirtual 90, 3)) rfl wn_806 wd_418 wp_11 wd_2 wd_419 ⟨rfl, rfl⟩ hd_X5_termOf ⟨Nat.le_of_ble_eq_true rfl, Nat.le_of_ble_eq_true rfl⟩ t_v2 kX5 (by decide) rfl rfl rfl (Nat.le_of_ble_eq_true rfl) ⟨Nat.zero_le _, Nat.zero_le _⟩ (fun r3 S2 h => ?_)
  obtain ⟨y4, h⟩ := h
  refine jIast C 11 (by decide +kernel : decode cX0_learnWords 10 = .ok (.iastore, 1)) rfl hE t_a1 y4 ?_
  refine jTopS (fun S5 e_S5 => ?_)
  have h := h S5 e_S5
  refine jB C [(.aload_n 0, 1, 0)] 12 [(0, .ref (b + v0)), (1, .int v1), (2, .ref (b + v2))] [.ref (b + v0)] (by decide +kernel) rfl rfl ?_
  obtain ⟨a6, e_a6, h⟩ := h
  refine jGetR C 15 (by decide +kernel : decode cX0_learnWords 12 = .ok (.getfield 46, 3)) rfl t_v0 kX0 5 (by decide) rfl rfl (by decide) wd_160 e_a6 rfl (fun t_a6 => ?_)
  refine jB C [(.iconst 1, 1, 1), (.aload_n 0, 1, 0)] 17 [(0, .ref (b + v0)), (1, .int v1), (2, .ref (b + v2))] [.ref (b + v0), .int 1, .ref (b + a6)] (by decide +kernel) rfl rfl ?_
  refine jGetI C 20 (by decide +kernel : decode cX0_learnWords 17 = .ok (.getfield 57, 3)) rfl t_v0 kX0 6 (by decide) rfl rfl (by decide) wd_161 ?_
  obtain ⟨y7, h⟩ := h
  refine jIast C 21 (by decide +kernel : decode cX0_learnWords 20 = .ok (.iastore, 1)) rfl hE t_a6 y7 ?_
  refine jTopS (fun S8 e_S8 => ?_)
  have h := h S8 e_S8
  refine jB C [(.aload_n 0, 1, 0)] 22 [(0, .ref (b + v0)), (1, .int v1), (2, .ref (b + v2))] [.ref (b + v0)] (by decide +kernel) rfl rfl ?_
  obtain ⟨a9, e_a9, h⟩ := h
  refine jGetR C 25 (by decide +kernel : decode cX0_learnWords 22 = .ok (.getfield 46, 3)) rfl t_v0 kX0 5 (by decide) rfl rfl (by decide) wd_160 e_a9 rfl (fun t_a9 => ?_)
  refine jB C [(.iconst 2, 1, 2), (.aload_n 0, 1, 0)] 27 [(0, .ref (b + v0)), (1, .int v1), (2, .ref (b + v2))] [.ref (b + v0), .int 2, .ref (b + a9)] (by decide +kernel) rfl rfl ?_
  refine jGetI C 30 (by decide +kernel : decode cX0_learnWords 27 = .ok (.getfield 61, 3)) rfl t_v0 kX0 7 (by decide) rfl rfl (by decide) wd_163 ?_
  obtain ⟨y10, h⟩ := h
  refine jIast C 31 (by decide +kernel : decode cX0_learnWords 30 = .ok (.iastore, 1)) rfl hE t_a9 y10 ?_
  refine jTopS (fun S11 e_S11 => ?_)
  have h := h S11 e_S11
  refine jB C [(.aload_n 0, 1, 0)] 32 [(0, .ref (b + v0)), (1, .int v1), (2, .ref (b + v2))] [.ref (b + v0)] (by decide +kernel) rfl rfl ?_
  obtain ⟨a12, e_a12, h⟩ := h
  refine jGetR C 35 (by decide +kernel : decode cX0_learnWords 32 = .ok (.getfield 46, 3)) rfl t_v0 kX0 5 (by decide) rfl rfl (by decide) wd_160 e_a12 rfl (fun t_a12 => ?_)
  refine jB C [(.iconst 3, 1, 3), (.aload_n 2, 1, 0), (.iconst 3, 1, 3)] 38 [(0, .ref (b + v0)), (1, .int v1), (2, .ref (b + v2))] [.int 3, .ref (b + v2), .int 3, .ref (b + a12)] (by decide +kernel) rfl rfl ?_
  refine jcVN_I C 41 (rest := [.int 3, .ref (b + a12)]) (ok_X5_termOf t_v2 h) (by decide +kernel : decode cX0_learnWords 38 = .ok (.invokevirtual 90, 3)) rfl wn_806 wd_418 wp_11 wd_2 wd_419 ⟨rfl, rfl⟩ hd_X5_termOf ⟨Nat.le_of_ble_eq_true rfl, Nat.le_of_ble_eq_true rfl⟩ t_v2 kX5 (by decide) rfl rfl rfl (Nat.le_of_ble_eq_true rfl) ⟨Nat.zero_le _, Nat.zero_le _⟩ (fun r14 S13 h => ?_)
  obtain ⟨y15, h⟩ := h
  refine jIast C 42 (by decide +kernel : decode cX0_learnWords 41 = .ok (.iastore, 1)) rfl hE t_a12 y15 ?_
  refine jTopS (fun S16 e_S16 => ?_)
  have h := h S16 e_S16
  refine jB C [(.iconst 0, 1, 0), (.istore_n 3, 1, 0)] 44 [(3, .int 0), (0, .ref (b + v0)), (1, .int v1), (2, .ref (b + v2))] [] (by decide +kernel) rfl rfl ?_
  refine jSub [1, 2, 3, 0] rfl ?_
  exact j_X0_learnWords_44 C hE t_v0 t_v2 h
theorem ok_X0_learnWords {G : Gm} {v0 : Nat} {v1 : Int32} {v2 : Nat} {S : St} {Q : St → Prop}  (t_v0 : ok G 0 v0) (t_v2 : ok G 4 v2) (h : f_X0_learnWords G v0 v1 v2 Q S) : MT yX0_learnWords cX0_learnWords 6 none rm_X0_learnWords 0 0 (fun b => [.ref (b + v0), .int v1, .ref (b + v2)]) G S (QV (fun G1 S1 => G1 = G ∧ Q S1)) := MT.ofJ (by decide +kernel) (fun b => [(0, .ref (b + v0)), (1, .int v1), (2, .ref (b + v2))]) (fun b => rfl) (fun b => Nat.le_of_ble_eq_true rfl) (fun l b D cy p e s m below meth c C hE hn => j_X0_learnWords C hE t_v0 t_v2 h)
theorem hd_X0_learnWords : yX0_learnWords.cls ≠ "java/lang/invoke/MethodHandle" ∧ yX0_learnWords.cls ≠ "java/lang/invoke/VarHandle" ∧ (parseMethodDescriptor yX0_learnWords.desc).map (fun d => d.parameters.length) = some 2 := by decide +kernel
abbrev rm_X8_usesOf : Room := { frames := 0, cells := 0, slots := 0, locals := 0 }
set_option maxHeartbeats 4000000 in
set_option maxRecDepth 100000 in
theorem j_X8_usesOf {p : Program} {l : Launch} {e : Env} {s : State} {m : MethodId} {args : Array Value} {below : List Frame} {meth : Method} {c : Code} {b : Nat} {D : va_G} {cy : Nat → ClassId} {G : Gm} {v0 : Nat} {v1 : Int32} {S : St} {Q : Int32 → St → Prop} (C : CX p s m args meth c b D cy cX8_usesOf RX8 2 (some .int)) (hE : s.heap.size + 0 ≤ b + G.2.2) (t_v0 : ok G 7 v0) (h : f_X8_usesOf G v0 v1 Q S) : J p l e rm_X8_usesOf s m args below meth c b D cy 2 (zI b D cy below args s G Q) 0 0 G S 0 [(0, .ref (b + v0)), (1, .int v1)] [] := by
  unfold f_X8_usesOf at h
  refine jB C [(.iload_n 1, 1, 0)] 1 [(0, .ref (b + v0)), (1, .int v1)] [.int v1] (by decide +kernel) rfl rfl ?_
  refine jIf_lt C 4 22 (by decide +kernel : decode cX8_usesOf 1 = .ok (.ifCond .lt 21, 3)) rfl rfl (fun c1 => ?_) (fun c1 => ?_)
  · have h := it1 h c1
    refine jB C [(.iconst 0, 1, 0)] 23 [(0, .ref (b + v0)), (1, .int v1)] [.int 0] (by decide +kernel) rfl rfl ?_
    exact jRetI C (by decide +kernel : decode cX8_usesOf 23 = .ok (.ireturn, 1)) (Nat.le_refl _) (Nat.le_refl _) ⟨rfl, h⟩
  · have h := it2 h c1
    refine jB C [(.iload_n 1, 1, 0), (.aload_n 0, 1, 0)] 6 [(0, .ref (b + v0)), (1, .int v1)] [.ref (b + v0), .int v1] (by decide +kernel) rfl rfl ?_
    obtain ⟨a2, e_a2, h⟩ := h
    refine jGetR C 9 (by decide +kernel : decode cX8_usesOf 6 = .ok (.getfield 22, 3)) rfl t_v0 kX8 2 (by decide) rfl rfl (by decide) wd_251 e_a2 rfl (fun t_a2 => ?_)
    refine jAlen11 C 10 (by decide +kernel : decode cX8_usesOf 9 = .ok (.arraylength, 1)) rfl t_a2 ?_
    refine jIcmp_ge C 13 22 (by decide +kernel : decode cX8_usesOf 10 = .ok (.if_icmp .ge 12, 3)) rfl rfl (fun c3 => ?_) (fun c3 => ?_)
    · have h := it1 h c3
      refine jB C [(.iconst 0, 1, 0)] 23 [(0, .ref (b + v0)), (1, .int v1)] [.int 0] (by decide +kernel) rfl rfl ?_
      exact jRetI C (by decide +kernel : decode cX8_usesOf 23 = .ok (.ireturn, 1)) (Nat.le_refl _) (Nat.le_refl _) ⟨rfl, h⟩
    · have h := it2 h c3
      refine jB C [(.aload_n 0, 1, 0)] 14 [(0, .ref (b + v0)), (1, .int v1)] [.ref (b + v0)] (by decide +kernel) rfl rfl ?_
      obtain ⟨a4, e_a4, h⟩ := h
      refine jGetR C 17 (by decide +kernel : decode cX8_usesOf 14 = .ok (.getfield 22, 3)) rfl t_v0 kX8 2 (by decide) rfl rfl (by decide) wd_251 e_a4 rfl (fun t_a4 => ?_)
      refine jB C [(.iload_n 1, 1, 0)] 18 [(0, .ref (b + v0)), (1, .int v1)] [.int v1, .ref (b + a4)] (by decide +kernel) rfl rfl ?_
      obtain ⟨y5, h⟩ := h
      refine jIald C 19 (by decide +kernel : decode cX8_usesOf 18 = .ok (.iaload, 1)) rfl t_a4 y5 ?_
      refine jGoto C 23 (by decide +kernel : decode cX8_usesOf 19 = .ok (.goto 4, 3)) rfl ?_
      exact jRetI C (by decide +kernel : decode cX8_usesOf 23 = .ok (.ireturn, 1)) (Nat.le_refl _) (Nat.le_refl _) ⟨rfl, h⟩
theorem ok_X8_usesOf {G : Gm} {v0 : Nat} {v1 : Int32} {S : St} {Q : Int32 → St → Prop}  (t_v0 : ok G 7 v0) (h : f_X8_usesOf G v0 v1 Q S) : MT yX8_usesOf cX8_usesOf 2 (some .int) rm_X8_usesOf 0 0 (fun b => [.ref (b + v0), .int v1]) G S (QI (fun r G1 S1 => G1 = G ∧ Q r S1)) := MT.ofJ (by decide +kernel) (fun b => [(0, .ref (b + v0)), (1, .int v1)]) (fun b => rfl) (fun b => Nat.le_of_ble_eq_true rfl) (fun l b D cy p e s m below meth c C hE hn => j_X8_usesOf C hE t_v0 h)
theorem hd_X8_usesOf : yX8_usesOf.cls ≠ "java/lang/invoke/MethodHandle" ∧ yX8_usesOf.cls ≠ "java/lang/invoke/VarHandle" ∧ (parseMethodDescriptor yX8_usesOf.desc).map (fun d => d.parameters.length) = some 1 := by decide +kernel
abbrev rm_X10_isKind : Room := { frames := 0, cells := 0, slots := 0, locals := 0 }
set_option maxHeartbeats 4000000 in
set_option maxRecDepth 100000 in
theorem j_X10_isKind {p : Program} {l : Launch} {e : Env} {s : State} {m : MethodId} {args : Array Value} {below : List Frame} {meth : Method} {c : Code} {b : Nat} {D : va_G} {cy : Nat → ClassId} {G : Gm} {v0 : Int32} {S : St} {Q : Int32 → St → Prop} (C : CX p s m args meth c b D cy cX10_isKind RX10 1 (some .boolean)) (hE : s.heap.size + 0 ≤ b + G.2.2) (h : f_X10_isKind G v0 Q S) : J p l e rm_X10_isKind s m args below meth c b D cy 1 (zI b D cy below args s G Q) 0 0 G S 0 [(0, .int v0)] [] := by
  unfold f_X10_isKind at h
  refine jB C [(.iload_n 0, 1, 0)] 1 [(0, .int v0)] [.int v0] (by decide +kernel) rfl rfl ?_
  refine jIf_lt C 4 13 (by decide +kernel : decode cX10_isKind 1 = .ok (.ifCond .lt 12, 3)) rfl rfl (fun c1 => ?_) (fun c1 => ?_)
  · have h := it1 h c1
    refine jB C [(.iconst 0, 1, 0)] 14 [(0, .int v0)] [.int 0] (by decide +kernel) rfl rfl ?_
    exact jRetZ C (by decide +kernel : decode cX10_isKind 14 = .ok (.ireturn, 1)) (Nat.le_refl _) (Nat.le_refl _) (by decide) ⟨rfl, h⟩
  · have h := it2 h c1
    refine jB C [(.iload_n 0, 1, 0), (.iconst 4, 1, 4)] 6 [(0, .int v0)] [.int 4, .int v0] (by decide +kernel) rfl rfl ?_
    refine jIcmp_ge C 9 13 (by decide +kernel : decode cX10_isKind 6 = .ok (.if_icmp .ge 7, 3)) rfl rfl (fun c2 => ?_) (fun c2 => ?_)
    · have h := it1 h c2
      refine jB C [(.iconst 0, 1, 0)] 14 [(0, .int v0)] [.int 0] (by decide +kernel) rfl rfl ?_
      exact jRetZ C (by decide +kernel : decode cX10_isKind 14 = .ok (.ireturn, 1)) (Nat.le_refl _) (Nat.le_refl _) (by decide) ⟨rfl, h⟩
    · have h := it2 h c2
      refine jB C [(.iconst 1, 1, 1)] 10 [(0, .int v0)] [.int 1] (by decide +kernel) rfl rfl ?_
      refine jGoto C 14 (by decide +kernel : decode cX10_isKind 10 = .ok (.goto 4, 3)) rfl ?_
      exact jRetZ C (by decide +kernel : decode cX10_isKind 14 = .ok (.ireturn, 1)) (Nat.le_refl _) (Nat.le_refl _) (by decide) ⟨rfl, h⟩
theorem ok_X10_isKind {G : Gm} {v0 : Int32} {S : St} {Q : Int32 → St → Prop}  (h : f_X10_isKind G v0 Q S) : MT yX10_isKind cX10_isKind 1 (some .boolean) rm_X10_isKind 0 0 (fun b => [.int v0]) G S (QI (fun r G1 S1 => G1 = G ∧ Q r S1)) := MT.ofJ (by decide +kernel) (fun b => [(0, .int v0)]) (fun b => rfl) (fun b => Nat.le_of_ble_eq_true rfl) (fun l b D cy p e s m below meth c C hE hn => j_X10_isKind C hE h)
theorem hd_X10_isKind : yX10_isKind.cls ≠ "java/lang/invoke/MethodHandle" ∧ yX10_isKind.cls ≠ "java/lang/invoke/VarHandle" ∧ (parseMethodDescriptor yX10_isKind.desc).map (fun d => d.parameters.length) = some 1 := by decide +kernel
abbrev rm_X5_sinOf : Room := { frames := 1, cells := 0, slots := 0, locals := 21 }
set_option maxHeartbeats 4000000 in
set_option maxRecDepth 100000 in
theorem j_X5_sinOf {p : Program} {l : Launch} {e : Env} {s : State} {m : MethodId} {args : Array Value} {below : List Frame} {meth : Method} {c : Code} {b : Nat} {D : va_G} {cy : Nat → ClassId} {G : Gm} {v0 : Nat} {v1 : Int32} {v2 : Int32} {S : St} {Q : Int32 → St → Prop} (C : CX p s m args meth c b D cy cX5_sinOf RX5 3 (some .int)) (hE : s.heap.size + 0 ≤ b + G.2.2) (t_v0 : ok G 4 v0) (h : f_X5_sinOf G v0 v1 v2 Q S) : J p l e rm_X5_sinOf s m args below meth c b D cy 3 (zI b D cy below args s G Q) 0 0 G S 0 [(0, .ref (b + v0)), (1, .int v1), (2, .int v2)] [] := by
  unfold f_X5_sinOf at h
  refine jB C [(.aload_n 0, 1, 0), (.iload_n 1, 1, 0)] 2 [(0, .ref (b + v0)), (1, .int v1), (2, .int v2)] [.int v1, .ref (b + v0)] (by decide +kernel) rfl rfl ?_
  refine jcV_I C 5 (rest := []) (ok_X5_has t_v0 h) (by decide +kernel : decode cX5_sinOf 2 = .ok (.invokevirtual 66, 3)) rfl wd_371 wd_373 wp_4 wd_2 wd_374 ⟨rfl, rfl⟩ hd_X5_has ⟨Nat.le_of_ble_eq_true rfl, Nat.le_of_ble_eq_true rfl⟩ t_v0 kX5 (by decide) rfl rfl rfl (Nat.le_of_ble_eq_true rfl) ⟨Nat.zero_le _, Nat.zero_le _⟩ (fun r2 S1 h => ?_)
  refine jIf_eq C 8 28 (by decide +kernel : decode cX5_sinOf 5 = .ok (.ifCond .eq 23, 3)) rfl rfl (fun c3 => ?_) (fun c3 => ?_)
  · have h := it1 h c3
    refine jB C [(.iconst 0, 1, 0)] 29 [(0, .ref (b + v0)), (1, .int v1), (2, .int v2)] [.int 0] (by decide +kernel) rfl rfl ?_
    exact jRetI C (by decide +kernel : decode cX5_sinOf 29 = .ok (.ireturn, 1)) (Nat.le_refl _) (Nat.le_refl _) ⟨rfl, h⟩
  · have h := it2 h c3
    refine jB C [(.iload_n 2, 1, 0)] 9 [(0, .ref (b + v0)), (1, .int v1), (2, .int v2)] [.int v2] (by decide +kernel) rfl rfl ?_
    refine jcSN_I C 12 (rest := []) (ok_X10_isKind h) (by decide +kernel : decode cX5_sinOf 9 = .ok (.invokestatic 70, 3)) rfl wn_375 wd_376 wd_1 wd_377 ⟨rfl, rfl⟩ hd_X10_isKind ⟨Nat.le_of_ble_eq_true rfl, Nat.le_of_ble_eq_true rfl⟩ rfl rfl (Nat.le_of_ble_eq_true rfl) ⟨Nat.zero_le _, Nat.zero_le _⟩ (fun r5 S4 h => ?_)
    refine jIf_eq C 15 28 (by decide +kernel : decode cX5_sinOf 12 = .ok (.ifCond .eq 16, 3)) rfl rfl (fun c6 => ?_) (fun c6 => ?_)
    · have h := it1 h c6
      refine jB C [(.iconst 0, 1, 0)] 29 [(0, .ref (b + v0)), (1, .int v1), (2, .int v2)] [.int 0] (by decide +kernel) rfl rfl ?_
      exact jRetI C (by decide +kernel : decode cX5_sinOf 29 = .ok (.ireturn, 1)) (Nat.le_refl _) (Nat.le_refl _) ⟨rfl, h⟩
    · have h := it2 h c6
      refine jB C [(.aload_n 0, 1, 0)] 16 [(0, .ref (b + v0)), (1, .int v1), (2, .int v2)] [.ref (b + v0)] (by decide +kernel) rfl rfl ?_
      obtain ⟨a7, e_a7, h⟩ := h
      refine jGetR C 19 (by decide +kernel : decode cX5_sinOf 16 = .ok (.getfield 9, 3)) rfl t_v0 kX5 1 (by decide) rfl rfl (by decide) wd_40 e_a7 rfl (fun t_a7 => ?_)
      refine jB C [(.iload_n 1, 1, 0), (.iconst 4, 1, 4), (.imul, 1, 0), (.iload_n 2, 1, 0), (.iadd, 1, 0)] 24 [(0, .ref (b + v0)), (1, .int v1), (2, .int v2)] [.int ((v1 * 4) + v2), .ref (b + a7)] (by decide +kernel) rfl rfl ?_
      obtain ⟨y8, h⟩ := h
      refine jIald C 25 (by decide +kernel : decode cX5_sinOf 24 = .ok (.iaload, 1)) rfl t_a7 y8 ?_
      refine jGoto C 29 (by decide +kernel : decode cX5_sinOf 25 = .ok (.goto 4, 3)) rfl ?_
      exact jRetI C (by decide +kernel : decode cX5_sinOf 29 = .ok (.ireturn, 1)) (Nat.le_refl _) (Nat.le_refl _) ⟨rfl, h⟩
theorem ok_X5_sinOf {G : Gm} {v0 : Nat} {v1 : Int32} {v2 : Int32} {S : St} {Q : Int32 → St → Prop}  (t_v0 : ok G 4 v0) (h : f_X5_sinOf G v0 v1 v2 Q S) : MT yX5_sinOf cX5_sinOf 3 (some .int) rm_X5_sinOf 0 0 (fun b => [.ref (b + v0), .int v1, .int v2]) G S (QI (fun r G1 S1 => G1 = G ∧ Q r S1)) := MT.ofJ (by decide +kernel) (fun b => [(0, .ref (b + v0)), (1, .int v1), (2, .int v2)]) (fun b => rfl) (fun b => Nat.le_of_ble_eq_true rfl) (fun l b D cy p e s m below meth c C hE hn => j_X5_sinOf C hE t_v0 h)
theorem hd_X5_sinOf : yX5_sinOf.cls ≠ "java/lang/invoke/MethodHandle" ∧ yX5_sinOf.cls ≠ "java/lang/invoke/VarHandle" ∧ (parseMethodDescriptor yX5_sinOf.desc).map (fun d => d.parameters.length) = some 2 := by decide +kernel
abbrev rm_X1_refusalOfSin : Room := { frames := 2, cells := 0, slots := 0, locals := 43 }
set_option maxHeartbeats 4000000 in
set_option maxRecDepth 100000 in
theorem j_X1_refusalOfSin {p : Program} {l : Launch} {e : Env} {s : State} {m : MethodId} {args : Array Value} {below : List Frame} {meth : Method} {c : Code} {b : Nat} {D : va_G} {cy : Nat → ClassId} {G : Gm} {v0 : Nat} {v1 : Int32} {v2 : Int32} {v3 : Int32} {S : St} {Q : Int32 → St → Prop} (C : CX p s m args meth c b D cy cX1_refusalOfSin RX1 5 (some .int)) (hE : s.heap.size + 0 ≤ b + G.2.2) (t_v0 : ok G 4 v0) (h : f_X1_refusalOfSin G v0 v1 v2 v3 Q S) : J p l e rm_X1_refusalOfSin s m args below meth c b D cy 5 (zI b D cy below args s G Q) 0 0 G S 0 [(0, .ref (b + v0)), (1, .int v1), (2, .int v2), (3, .int v3)] [] := by
  unfold f_X1_refusalOfSin at h
  refine jB C [(.iload_n 2, 1, 0)] 1 [(0, .ref (b + v0)), (1, .int v1), (2, .int v2), (3, .int v3)] [.int v2] (by decide +kernel) rfl rfl ?_
  refine jcSN_I C 4 (rest := []) (ok_X10_isKind h) (by decide +kernel : decode cX1_refusalOfSin 1 = .ok (.invokestatic 90, 3)) rfl wn_826 wd_376 wd_1 wd_377 ⟨rfl, rfl⟩ hd_X10_isKind ⟨Nat.le_of_ble_eq_true rfl, Nat.le_of_ble_eq_true rfl⟩ rfl rfl (Nat.le_of_ble_eq_true rfl) ⟨Nat.zero_le _, Nat.zero_le _⟩ (fun r2 S1 h => ?_)
  refine jIf_eq C 7 19 (by decide +kernel : decode cX1_refusalOfSin 4 = .ok (.ifCond .eq 15, 3)) rfl rfl (fun c3 => ?_) (fun c3 => ?_)
  · have h := it1 h c3
    refine jB C [(.iconst (-1), 1, (-1))] 20 [(0, .ref (b + v0)), (1, .int v1), (2, .int v2), (3, .int v3)] [.int (-1)] (by decide +kernel) rfl rfl ?_
    exact jRetI C (by decide +kernel : decode cX1_refusalOfSin 20 = .ok (.ireturn, 1)) (Nat.le_refl _) (Nat.le_refl _) ⟨rfl, h⟩
  · have h := it2 h c3
    refine jB C [(.iload_n 3, 1, 0), (.bipush (-8), 2, (-8))] 10 [(0, .ref (b + v0)), (1, .int v1), (2, .int v2), (3, .int v3)] [.int (-8), .int v3] (by decide +kernel) rfl rfl ?_
    refine jIcmp_lt C 13 19 (by decide +kernel : decode cX1_refusalOfSin 10 = .ok (.if_icmp .lt 9, 3)) rfl rfl (fun c4 => ?_) (fun c4 => ?_)
    · have h := it1 h c4
      refine jB C [(.iconst (-1), 1, (-1))] 20 [(0, .ref (b + v0)), (1, .int v1), (2, .int v2), (3, .int v3)] [.int (-1)] (by decide +kernel) rfl rfl ?_
      exact jRetI C (by decide +kernel : decode cX1_refusalOfSin 20 = .ok (.ireturn, 1)) (Nat.le_refl _) (Nat.le_refl _) ⟨rfl, h⟩
    · have h := it2 h c4
      refine jB C [(.iload_n 3, 1, 0), (.bipush 8, 2, 8)] 16 [(0, .ref (b + v0)), (1, .int v1), (2, .int v2), (3, .int v3)] [.int 8, .int v3] (by decide +kernel) rfl rfl ?_
      refine jIcmp_le C 19 21 (by decide +kernel : decode cX1_refusalOfSin 16 = .ok (.if_icmp .le 5, 3)) rfl rfl (fun c5 => ?_) (fun c5 => ?_)
      · have h := it1 h c5
        refine jB C [(.aload_n 0, 1, 0), (.iload_n 1, 1, 0)] 23 [(0, .ref (b + v0)), (1, .int v1), (2, .int v2), (3, .int v3)] [.int v1, .ref (b + v0)] (by decide +kernel) rfl rfl ?_
        refine jcVN_I C 26 (rest := []) (ok_X5_has t_v0 h) (by decide +kernel : decode cX1_refusalOfSin 23 = .ok (.invokevirtual 79, 3)) rfl wn_827 wd_373 wp_4 wd_2 wd_374 ⟨rfl, rfl⟩ hd_X5_has ⟨Nat.le_of_ble_eq_true rfl, Nat.le_of_ble_eq_true rfl⟩ t_v0 kX5 (by decide) rfl rfl rfl (Nat.le_of_ble_eq_true rfl) ⟨Nat.zero_le _, Nat.zero_le _⟩ (fun r7 S6 h => ?_)
        refine jIf_ne C 29 32 (by decide +kernel : decode cX1_refusalOfSin 26 = .ok (.ifCond .ne 6, 3)) rfl rfl (fun c8 => ?_) (fun c8 => ?_)
        · have h := it2 h c8
          refine jB C [(.aload_n 0, 1, 0), (.iload_n 1, 1, 0), (.iload_n 2, 1, 0)] 35 [(0, .ref (b + v0)), (1, .int v1), (2, .int v2), (3, .int v3)] [.int v2, .int v1, .ref (b + v0)] (by decide +kernel) rfl rfl ?_
          refine jcVN_I C 38 (rest := []) (ok_X5_sinOf t_v0 h) (by decide +kernel : decode cX1_refusalOfSin 35 = .ok (.invokevirtual 32, 3)) rfl wn_828 wd_398 wp_8 wd_2 wd_399 ⟨rfl, rfl⟩ hd_X5_sinOf ⟨Nat.le_of_ble_eq_true rfl, Nat.le_of_ble_eq_true rfl⟩ t_v0 kX5 (by decide) rfl rfl rfl (Nat.le_of_ble_eq_true rfl) ⟨Nat.zero_le _, Nat.zero_le _⟩ (fun r10 S9 h => ?_)
          refine jB C [(.iload_n 3, 1, 0), (.iadd, 1, 0)] 40 [(0, .ref (b + v0)), (1, .int v1), (2, .int v2), (3, .int v3)] [.int (r10 + v3)] (by decide +kernel) rfl rfl ?_
          refine jTopI (fun x11 e_x11 => ?_)
          have h := h x11 e_x11
          refine jB C [(.istore 4, 2, 0), (.iload 4, 2, 0)] 44 [(4, .int x11), (0, .ref (b + v0)), (1, .int v1), (2, .int v2), (3, .int v3)] [.int x11] (by decide +kernel) rfl rfl ?_
          refine jIf_lt C 47 54 (by decide +kernel : decode cX1_refusalOfSin 44 = .ok (.ifCond .lt 10, 3)) rfl rfl (fun c12 => ?_) (fun c12 => ?_)
          · have h := it1 h c12
            refine jB C [(.bipush (-3), 2, (-3))] 56 [(4, .int x11), (0, .ref (b + v0)), (1, .int v1), (2, .int v2), (3, .int v3)] [.int (-3)] (by decide +kernel) rfl rfl ?_
            refine jGoto C 60 (by decide +kernel : decode cX1_refusalOfSin 56 = .ok (.goto 4, 3)) rfl ?_
            exact jRetI C (by decide +kernel : decode cX1_refusalOfSin 60 = .ok (.ireturn, 1)) (Nat.le_refl _) (Nat.le_refl _) ⟨rfl, h⟩
          · have h := it2 h c12
            refine jB C [(.iload 4, 2, 0), (.bipush 8, 2, 8)] 51 [(4, .int x11), (0, .ref (b + v0)), (1, .int v1), (2, .int v2), (3, .int v3)] [.int 8, .int x11] (by decide +kernel) rfl rfl ?_
            refine jIcmp_le C 54 59 (by decide +kernel : decode cX1_refusalOfSin 51 = .ok (.if_icmp .le 8, 3)) rfl rfl (fun c13 => ?_) (fun c13 => ?_)
            · have h := it1 h c13
              refine jB C [(.iconst 0, 1, 0)] 60 [(4, .int x11), (0, .ref (b + v0)), (1, .int v1), (2, .int v2), (3, .int v3)] [.int 0] (by decide +kernel) rfl rfl ?_
              exact jRetI C (by decide +kernel : decode cX1_refusalOfSin 60 = .ok (.ireturn, 1)) (Nat.le_refl _) (Nat.le_refl _) ⟨rfl, h⟩
            · have h := it2 h c13
              refine jB C [(.bipush (-3), 2, (-3))] 56 [(4, .int x11), (0, .ref (b + v0)), (1, .int v1), (2, .int v2), (3, .int v3)] [.int (-3)] (by decide +kernel) rfl rfl ?_
              refine jGoto C 60 (by decide +kernel : decode cX1_refusalOfSin 56 = .ok (.goto 4, 3)) rfl ?_
              exact jRetI C (by decide +kernel : decode cX1_refusalOfSin 60 = .ok (.ireturn, 1)) (Nat.le_refl _) (Nat.le_refl _) ⟨rfl, h⟩
        · have h := it1 h c8
          refine jB C [(.bipush (-2), 2, (-2))] 31 [(0, .ref (b + v0)), (1, .int v1), (2, .int v2), (3, .int v3)] [.int (-2)] (by decide +kernel) rfl rfl ?_
          exact jRetI C (by decide +kernel : decode cX1_refusalOfSin 31 = .ok (.ireturn, 1)) (Nat.le_refl _) (Nat.le_refl _) ⟨rfl, h⟩
      · have h := it2 h c5
        refine jB C [(.iconst (-1), 1, (-1))] 20 [(0, .ref (b + v0)), (1, .int v1), (2, .int v2), (3, .int v3)] [.int (-1)] (by decide +kernel) rfl rfl ?_
        exact jRetI C (by decide +kernel : decode cX1_refusalOfSin 20 = .ok (.ireturn, 1)) (Nat.le_refl _) (Nat.le_refl _) ⟨rfl, h⟩
theorem ok_X1_refusalOfSin {G : Gm} {v0 : Nat} {v1 : Int32} {v2 : Int32} {v3 : Int32} {S : St} {Q : Int32 → St → Prop}  (t_v0 : ok G 4 v0) (h : f_X1_refusalOfSin G v0 v1 v2 v3 Q S) : MT yX1_refusalOfSin cX1_refusalOfSin 5 (some .int) rm_X1_refusalOfSin 0 0 (fun b => [.ref (b + v0), .int v1, .int v2, .int v3]) G S (QI (fun r G1 S1 => G1 = G ∧ Q r S1)) := MT.ofJ (by decide +kernel) (fun b => [(0, .ref (b + v0)), (1, .int v1), (2, .int v2), (3, .int v3)]) (fun b => rfl) (fun b => Nat.le_of_ble_eq_true rfl) (fun l b D cy p e s m below meth c C hE hn => j_X1_refusalOfSin C hE t_v0 h)
theorem hd_X1_refusalOfSin : yX1_refusalOfSin.cls ≠ "java/lang/invoke/MethodHandle" ∧ yX1_refusalOfSin.cls ≠ "java/lang/invoke/VarHandle" ∧ (parseMethodDescriptor yX1_refusalOfSin.desc).map (fun d => d.parameters.length) = some 4 := by decide +kernel
abbrev rm_X2_bars : Room := { frames := 3, cells := 0, slots := 0, locals := 82 }
set_option maxHeartbeats 4000000 in
set_option maxRecDepth 100000 in
theorem j_X2_bars {p : Program} {l : Launch} {e : Env} {s : State} {m : MethodId} {args : Array Value} {below : List Frame} {meth : Method} {c : Code} {b : Nat} {D : va_G} {cy : Nat → ClassId} {G : Gm} {v0 : Nat} {v1 : Nat} {v2 : Int32} {S : St} {Q : Int32 → St → Prop} (C : CX p s m args meth c b D cy cX2_bars RX2 3 (some .boolean)) (hE : s.heap.size + 0 ≤ b + G.2.2) (t_v0 : ok G 2 v0) (t_v1 : ok G 4 v1) (h : f_X2_bars G v0 v1 v2 Q S) : J p l e rm_X2_bars s m args below meth c b D cy 3 (zI b D cy below args s G Q) 0 0 G S 0 [(0, .ref (b + v0)), (1, .ref (b + v1)), (2, .int v2)] [] := by
  unfold f_X2_bars at h
  refine jB C [(.aload_n 0, 1, 0), (.aload_n 1, 1, 0), (.iload_n 2, 1, 0), (.aload_n 1, 1, 0), (.iload_n 2, 1, 0)] 5 [(0, .ref (b + v0)), (1, .ref (b + v1)), (2, .int v2)] [.int v2, .ref (b + v1), .int v2, .ref (b + v1), .ref (b + v0)] (by decide +kernel) rfl rfl ?_
  refine jcVN_I C 8 (rest := [.int v2, .ref (b + v1), .ref (b + v0)]) (ok_X5_sightOf t_v1 h) (by decide +kernel : decode cX2_bars 5 = .ok (.invokevirtual 54, 3)) rfl wn_493 wd_413 wp_10 wd_2 wd_414 ⟨rfl, rfl⟩ hd_X5_sightOf ⟨Nat.le_of_ble_eq_true rfl, Nat.le_of_ble_eq_true rfl⟩ t_v1 kX5 (by decide) rfl rfl rfl (Nat.le_of_ble_eq_true rfl) ⟨Nat.zero_le _, Nat.zero_le _⟩ (fun r2 S1 h => ?_)
  refine jcV_V C 11 (rest := []) (ok_X2_aboutPerson t_v0 t_v1 h) (by decide +kernel : decode cX2_bars 8 = .ok (.invokevirtual 45, 3)) rfl wd_430 wd_432 wp_13 wd_4 wd_433 ⟨rfl, rfl⟩ hd_X2_aboutPerson ⟨Nat.le_of_ble_eq_true rfl, Nat.le_of_ble_eq_true rfl⟩ t_v0 kX2 (by decide) rfl rfl rfl (Nat.le_of_ble_eq_true rfl) ⟨Nat.zero_le _, Nat.zero_le _⟩ (fun S3 h => ?_)
  refine jB C [(.aload_n 0, 1, 0), (.aload_n 1, 1, 0)] 13 [(0, .ref (b + v0)), (1, .ref (b + v1)), (2, .int v2)] [.ref (b + v1), .ref (b + v0)] (by decide +kernel) rfl rfl ?_
  refine jcVN_O C 16 (rest := [.ref (b + v0)]) (ok_X5_lawInForce t_v1 h) (by decide +kernel : decode cX2_bars 13 = .ok (.invokevirtual 41, 3)) rfl wn_445 wd_447 wp_15 wd_2 wd_448 ⟨rfl, rfl⟩ hd_X5_lawInForce ⟨Nat.le_of_ble_eq_true rfl, Nat.le_of_ble_eq_true rfl⟩ t_v1 kX5 (by decide) rfl rfl rfl (Nat.le_of_ble_eq_true rfl) ⟨Nat.zero_le _, Nat.zero_le _⟩ (fun r5 S4 h => ?_)
  obtain ⟨t6, h⟩ := h
  refine jB C [(.iconst 3, 1, 3)] 17 [(0, .ref (b + v0)), (1, .ref (b + v1)), (2, .int v2)] [.int 3, rv b r5, .ref (b + v0)] (by decide +kernel) rfl rfl ?_
  refine jcV_I C 20 (rest := []) (ok_X2_lastTold t_v0 t6 h) (by decide +kernel : decode cX2_bars 17 = .ok (.invokevirtual 26, 3)) rfl wd_457 wd_459 wp_18 wd_4 wd_460 ⟨rfl, rfl⟩ hd_X2_lastTold ⟨Nat.le_of_ble_eq_true rfl, Nat.le_of_ble_eq_true rfl⟩ t_v0 kX2 (by decide) rfl rfl rfl (Nat.le_of_ble_eq_true rfl) ⟨Nat.zero_le _, Nat.zero_le _⟩ (fun r8 S7 h => ?_)
  refine jLdc C 22 (by decide +kernel : decode cX2_bars 20 = .ok (.ldc 30, 2)) rfl wd_461 ?_
  refine jIcmp_eq C 25 29 (by decide +kernel : decode cX2_bars 22 = .ok (.if_icmp .eq 7, 3)) rfl rfl (fun c9 => ?_) (fun c9 => ?_)
  · have h := it1 h c9
    refine jB C [(.iconst 0, 1, 0)] 30 [(0, .ref (b + v0)), (1, .ref (b + v1)), (2, .int v2)] [.int 0] (by decide +kernel) rfl rfl ?_
    exact jRetZ C (by decide +kernel : decode cX2_bars 30 = .ok (.ireturn, 1)) (Nat.le_refl _) (Nat.le_refl _) (by decide) ⟨rfl, h⟩
  · have h := it2 h c9
    refine jB C [(.iconst 1, 1, 1)] 26 [(0, .ref (b + v0)), (1, .ref (b + v1)), (2, .int v2)] [.int 1] (by decide +kernel) rfl rfl ?_
    refine jGoto C 30 (by decide +kernel : decode cX2_bars 26 = .ok (.goto 4, 3)) rfl ?_
    exact jRetZ C (by decide +kernel : decode cX2_bars 30 = .ok (.ireturn, 1)) (Nat.le_refl _) (Nat.le_refl _) (by decide) ⟨rfl, h⟩
theorem ok_X2_bars {G : Gm} {v0 : Nat} {v1 : Nat} {v2 : Int32} {S : St} {Q : Int32 → St → Prop}  (t_v0 : ok G 2 v0) (t_v1 : ok G 4 v1) (h : f_X2_bars G v0 v1 v2 Q S) : MT yX2_bars cX2_bars 3 (some .boolean) rm_X2_bars 0 0 (fun b => [.ref (b + v0), .ref (b + v1), .int v2]) G S (QI (fun r G1 S1 => G1 = G ∧ Q r S1)) := MT.ofJ (by decide +kernel) (fun b => [(0, .ref (b + v0)), (1, .ref (b + v1)), (2, .int v2)]) (fun b => rfl) (fun b => Nat.le_of_ble_eq_true rfl) (fun l b D cy p e s m below meth c C hE hn => j_X2_bars C hE t_v0 t_v1 h)
theorem hd_X2_bars : yX2_bars.cls ≠ "java/lang/invoke/MethodHandle" ∧ yX2_bars.cls ≠ "java/lang/invoke/VarHandle" ∧ (parseMethodDescriptor yX2_bars.desc).map (fun d => d.parameters.length) = some 2 := by decide +kernel
abbrev rm_X1_refusalOf : Room := { frames := 4, cells := 0, slots := 0, locals := 104 }
set_option maxHeartbeats 4000000 in
set_option maxRecDepth 100000 in
theorem j_X1_refusalOf {p : Program} {l : Launch} {e : Env} {s : State} {m : MethodId} {args : Array Value} {below : List Frame} {meth : Method} {c : Code} {b : Nat} {D : va_G} {cy : Nat → ClassId} {G : Gm} {v0 : Nat} {v1 : Nat} {v2 : Int32} {v3 : Int32} {v4 : Int32} {v5 : Int32} {S : St} {Q : Int32 → St → Prop} (C : CX p s m args meth c b D cy cX1_refusalOf RX1 6 (some .int)) (hE : s.heap.size + 0 ≤ b + G.2.2) (t_v0 : ok G 1 v0) (t_v1 : ok G 4 v1) (h : f_X1_refusalOf G v0 v1 v2 v3 v4 v5 Q S) : J p l e rm_X1_refusalOf s m args below meth c b D cy 6 (zI b D cy below args s G Q) 0 0 G S 0 [(0, .ref (b + v0)), (1, .ref (b + v1)), (2, .int v2), (3, .int v3), (4, .int v4), (5, .int v5)] [] := by
  unfold f_X1_refusalOf at h
  refine jB C [(.iload_n 2, 1, 0)] 1 [(0, .ref (b + v0)), (1, .ref (b + v1)), (2, .int v2), (3, .int v3), (4, .int v4), (5, .int v5)] [.int v2] (by decide +kernel) rfl rfl ?_
  by_cases c26_0 : v2 = 0
  · have h := it1 h c26_0
    refine jTabIn C 32 0 (by decide +kernel : decode cX1_refusalOf 1 = .ok (.tableswitch 129 0 3 #[31, 41, 71, 103], 31)) c26_0 ⟨rfl, rfl, rfl, rfl⟩ ?_
    refine jB C [(.aload_n 1, 1, 0), (.iload_n 3, 1, 0), (.iload 4, 2, 0), (.iload 5, 2, 0)] 38 [(0, .ref (b + v0)), (1, .ref (b + v1)), (2, .int v2), (3, .int v3), (4, .int v4), (5, .int v5)] [.int v5, .int v4, .int v3, .ref (b + v1)] (by decide +kernel) rfl rfl ?_
    refine jcS_I C 41 (rest := []) (ok_X1_refusalOfSin t_v1 h) (by decide +kernel : decode cX1_refusalOf 38 = .ok (.invokestatic 75, 3)) rfl wd_823 wd_824 wd_6 wd_825 ⟨rfl, rfl⟩ hd_X1_refusalOfSin ⟨Nat.le_of_ble_eq_true rfl, Nat.le_of_ble_eq_true rfl⟩ rfl rfl (Nat.le_of_ble_eq_true rfl) ⟨Nat.zero_le _, Nat.zero_le _⟩ (fun r2 S1 h => ?_)
    exact jRetI C (by decide +kernel : decode cX1_refusalOf 41 = .ok (.ireturn, 1)) (Nat.le_refl _) (Nat.le_refl _) ⟨rfl, h⟩
  · have h := it2 h c26_0
    by_cases c26_1 : v2 = 1
    · have h := it1 h c26_1
      refine jTabIn C 42 1 (by decide +kernel : decode cX1_refusalOf 1 = .ok (.tableswitch 129 0 3 #[31, 41, 71, 103], 31)) c26_1 ⟨rfl, rfl, rfl, rfl⟩ ?_
      refine jB C [(.aload_n 1, 1, 0), (.iload_n 3, 1, 0)] 44 [(0, .ref (b + v0)), (1, .ref (b + v1)), (2, .int v2), (3, .int v3), (4, .int v4), (5, .int v5)] [.int v3, .ref (b + v1)] (by decide +kernel) rfl rfl ?_
      refine jcVN_I C 47 (rest := []) (ok_X5_has t_v1 h) (by decide +kernel : decode cX1_refusalOf 44 = .ok (.invokevirtual 79, 3)) rfl wn_827 wd_373 wp_4 wd_2 wd_374 ⟨rfl, rfl⟩ hd_X5_has ⟨Nat.le_of_ble_eq_true rfl, Nat.le_of_ble_eq_true rfl⟩ t_v1 kX5 (by decide) rfl rfl rfl (Nat.le_of_ble_eq_true rfl) ⟨Nat.zero_le _, Nat.zero_le _⟩ (fun r4 S3 h => ?_)
      refine jIf_ne C 50 53 (by decide +kernel : decode cX1_refusalOf 47 = .ok (.ifCond .ne 6, 3)) rfl rfl (fun c5 => ?_) (fun c5 => ?_)
      · have h := it2 h c5
        refine jB C [(.aload_n 0, 1, 0)] 54 [(0, .ref (b + v0)), (1, .ref (b + v1)), (2, .int v2), (3, .int v3), (4, .int v4), (5, .int v5)] [.ref (b + v0)] (by decide +kernel) rfl rfl ?_
        obtain ⟨a6, e_a6, h⟩ := h
        refine jGetR C 57 (by decide +kernel : decode cX1_refusalOf 54 = .ok (.getfield 12, 3)) rfl t_v0 kX1 0 (by decide) rfl rfl (by decide) wd_132 e_a6 rfl (fun t_a6 => ?_)
        refine jB C [(.aload_n 1, 1, 0), (.iload_n 3, 1, 0)] 59 [(0, .ref (b + v0)), (1, .ref (b + v1)), (2, .int v2), (3, .int v3), (4, .int v4), (5, .int v5)] [.int v3, .ref (b + v1), .ref (b + a6)] (by decide +kernel) rfl rfl ?_
        refine jcVN_I C 62 (rest := []) (ok_X2_bars t_a6 t_v1 h) (by decide +kernel : decode cX1_refusalOf 59 = .ok (.invokevirtual 83, 3)) rfl wn_829 wd_491 wp_23 wd_4 wd_492 ⟨rfl, rfl⟩ hd_X2_bars ⟨Nat.le_of_ble_eq_true rfl, Nat.le_of_ble_eq_true rfl⟩ t_a6 kX2 (by decide) rfl rfl rfl (Nat.le_of_ble_eq_true rfl) ⟨Nat.zero_le _, Nat.zero_le _⟩ (fun r8 S7 h => ?_)
        refine jIf_eq C 65 70 (by decide +kernel : decode cX1_refusalOf 62 = .ok (.ifCond .eq 8, 3)) rfl rfl (fun c9 => ?_) (fun c9 => ?_)
        · have h := it1 h c9
          refine jB C [(.iconst 0, 1, 0)] 71 [(0, .ref (b + v0)), (1, .ref (b + v1)), (2, .int v2), (3, .int v3), (4, .int v4), (5, .int v5)] [.int 0] (by decide +kernel) rfl rfl ?_
          exact jRetI C (by decide +kernel : decode cX1_refusalOf 71 = .ok (.ireturn, 1)) (Nat.le_refl _) (Nat.le_refl _) ⟨rfl, h⟩
        · have h := it2 h c9
          refine jB C [(.bipush (-3), 2, (-3))] 67 [(0, .ref (b + v0)), (1, .ref (b + v1)), (2, .int v2), (3, .int v3), (4, .int v4), (5, .int v5)] [.int (-3)] (by decide +kernel) rfl rfl ?_
          refine jGoto C 71 (by decide +kernel : decode cX1_refusalOf 67 = .ok (.goto 4, 3)) rfl ?_
          exact jRetI C (by decide +kernel : decode cX1_refusalOf 71 = .ok (.ireturn, 1)) (Nat.le_refl _) (Nat.le_refl _) ⟨rfl, h⟩
      · have h := it1 h c5
        refine jB C [(.bipush (-2), 2, (-2))] 52 [(0, .ref (b + v0)), (1, .ref (b + v1)), (2, .int v2), (3, .int v3), (4, .int v4), (5, .int v5)] [.int (-2)] (by decide +kernel) rfl rfl ?_
        exact jRetI C (by decide +kernel : decode cX1_refusalOf 52 = .ok (.ireturn, 1)) (Nat.le_refl _) (Nat.le_refl _) ⟨rfl, h⟩
    · have h := it2 h c26_1
      by_cases c26_2 : v2 = 2
      · have h := it1 h c26_2
        refine jTabIn C 72 2 (by decide +kernel : decode cX1_refusalOf 1 = .ok (.tableswitch 129 0 3 #[31, 41, 71, 103], 31)) c26_2 ⟨rfl, rfl, rfl, rfl⟩ ?_
        refine jB C [(.iload_n 3, 1, 0), (.iload 4, 2, 0)] 75 [(0, .ref (b + v0)), (1, .ref (b + v1)), (2, .int v2), (3, .int v3), (4, .int v4), (5, .int v5)] [.int v4, .int v3] (by decide +kernel) rfl rfl ?_
        refine jIcmp_ne C 78 80 (by decide +kernel : decode cX1_refusalOf 75 = .ok (.if_icmp .ne 5, 3)) rfl rfl (fun c10 => ?_) (fun c10 => ?_)
        · have h := it2 h c10
          refine jB C [(.aload_n 1, 1, 0), (.iload_n 3, 1, 0)] 82 [(0, .ref (b + v0)), (1, .ref (b + v1)), (2, .int v2), (3, .int v3), (4, .int v4), (5, .int v5)] [.int v3, .ref (b + v1)] (by decide +kernel) rfl rfl ?_
          refine jcVN_I C 85 (rest := []) (ok_X5_has t_v1 h) (by decide +kernel : decode cX1_refusalOf 82 = .ok (.invokevirtual 79, 3)) rfl wn_827 wd_373 wp_4 wd_2 wd_374 ⟨rfl, rfl⟩ hd_X5_has ⟨Nat.le_of_ble_eq_true rfl, Nat.le_of_ble_eq_true rfl⟩ t_v1 kX5 (by decide) rfl rfl rfl (Nat.le_of_ble_eq_true rfl) ⟨Nat.zero_le _, Nat.zero_le _⟩ (fun r12 S11 h => ?_)
          refine jIf_eq C 88 101 (by decide +kernel : decode cX1_refusalOf 85 = .ok (.ifCond .eq 16, 3)) rfl rfl (fun c13 => ?_) (fun c13 => ?_)
          · have h := it1 h c13
            refine jB C [(.bipush (-2), 2, (-2))] 103 [(0, .ref (b + v0)), (1, .ref (b + v1)), (2, .int v2), (3, .int v3), (4, .int v4), (5, .int v5)] [.int (-2)] (by decide +kernel) rfl rfl ?_
            exact jRetI C (by decide +kernel : decode cX1_refusalOf 103 = .ok (.ireturn, 1)) (Nat.le_refl _) (Nat.le_refl _) ⟨rfl, h⟩
          · have h := it2 h c13
            refine jB C [(.aload_n 1, 1, 0), (.iload 4, 2, 0)] 91 [(0, .ref (b + v0)), (1, .ref (b + v1)), (2, .int v2), (3, .int v3), (4, .int v4), (5, .int v5)] [.int v4, .ref (b + v1)] (by decide +kernel) rfl rfl ?_
            refine jcVN_I C 94 (rest := []) (ok_X5_has t_v1 h) (by decide +kernel : decode cX1_refusalOf 91 = .ok (.invokevirtual 79, 3)) rfl wn_827 wd_373 wp_4 wd_2 wd_374 ⟨rfl, rfl⟩ hd_X5_has ⟨Nat.le_of_ble_eq_true rfl, Nat.le_of_ble_eq_true rfl⟩ t_v1 kX5 (by decide) rfl rfl rfl (Nat.le_of_ble_eq_true rfl) ⟨Nat.zero_le _, Nat.zero_le _⟩ (fun r15 S14 h => ?_)
            refine jIf_eq C 97 101 (by decide +kernel : decode cX1_refusalOf 94 = .ok (.ifCond .eq 7, 3)) rfl rfl (fun c16 => ?_) (fun c16 => ?_)
            · have h := it1 h c16
              refine jB C [(.bipush (-2), 2, (-2))] 103 [(0, .ref (b + v0)), (1, .ref (b + v1)), (2, .int v2), (3, .int v3), (4, .int v4), (5, .int v5)] [.int (-2)] (by decide +kernel) rfl rfl ?_
              exact jRetI C (by decide +kernel : decode cX1_refusalOf 103 = .ok (.ireturn, 1)) (Nat.le_refl _) (Nat.le_refl _) ⟨rfl, h⟩
            · have h := it2 h c16
              refine jB C [(.iconst 0, 1, 0)] 98 [(0, .ref (b + v0)), (1, .ref (b + v1)), (2, .int v2), (3, .int v3), (4, .int v4), (5, .int v5)] [.int 0] (by decide +kernel) rfl rfl ?_
              refine jGoto C 103 (by decide +kernel : decode cX1_refusalOf 98 = .ok (.goto 5, 3)) rfl ?_
              exact jRetI C (by decide +kernel : decode cX1_refusalOf 103 = .ok (.ireturn, 1)) (Nat.le_refl _) (Nat.le_refl _) ⟨rfl, h⟩
        · have h := it1 h c10
          refine jB C [(.iconst (-1), 1, (-1))] 79 [(0, .ref (b + v0)), (1, .ref (b + v1)), (2, .int v2), (3, .int v3), (4, .int v4), (5, .int v5)] [.int (-1)] (by decide +kernel) rfl rfl ?_
          exact jRetI C (by decide +kernel : decode cX1_refusalOf 79 = .ok (.ireturn, 1)) (Nat.le_refl _) (Nat.le_refl _) ⟨rfl, h⟩
      · have h := it2 h c26_2
        by_cases c26_3 : v2 = 3
        · have h := it1 h c26_3
          refine jTabIn C 104 3 (by decide +kernel : decode cX1_refusalOf 1 = .ok (.tableswitch 129 0 3 #[31, 41, 71, 103], 31)) c26_3 ⟨rfl, rfl, rfl, rfl⟩ ?_
          refine jB C [(.aload_n 1, 1, 0), (.iload_n 3, 1, 0)] 106 [(0, .ref (b + v0)), (1, .ref (b + v1)), (2, .int v2), (3, .int v3), (4, .int v4), (5, .int v5)] [.int v3, .ref (b + v1)] (by decide +kernel) rfl rfl ?_
          refine jcVN_I C 109 (rest := []) (ok_X5_has t_v1 h) (by decide +kernel : decode cX1_refusalOf 106 = .ok (.invokevirtual 79, 3)) rfl wn_827 wd_373 wp_4 wd_2 wd_374 ⟨rfl, rfl⟩ hd_X5_has ⟨Nat.le_of_ble_eq_true rfl, Nat.le_of_ble_eq_true rfl⟩ t_v1 kX5 (by decide) rfl rfl rfl (Nat.le_of_ble_eq_true rfl) ⟨Nat.zero_le _, Nat.zero_le _⟩ (fun r18 S17 h => ?_)
          refine jIf_ne C 112 115 (by decide +kernel : decode cX1_refusalOf 109 = .ok (.ifCond .ne 6, 3)) rfl rfl (fun c19 => ?_) (fun c19 => ?_)
          · have h := it2 h c19
            refine jB C [(.aload_n 1, 1, 0), (.iload_n 3, 1, 0)] 117 [(0, .ref (b + v0)), (1, .ref (b + v1)), (2, .int v2), (3, .int v3), (4, .int v4), (5, .int v5)] [.int v3, .ref (b + v1)] (by decide +kernel) rfl rfl ?_
            refine jcVN_I C 120 (rest := []) (ok_X5_glassOf t_v1 h) (by decide +kernel : decode cX1_refusalOf 117 = .ok (.invokevirtual 54, 3)) rfl wn_830 wd_402 wp_9 wd_2 wd_403 ⟨rfl, rfl⟩ hd_X5_glassOf ⟨Nat.le_of_ble_eq_true rfl, Nat.le_of_ble_eq_true rfl⟩ t_v1 kX5 (by decide) rfl rfl rfl (Nat.le_of_ble_eq_true rfl) ⟨Nat.zero_le _, Nat.zero_le _⟩ (fun r21 S20 h => ?_)
            refine jIf_ne C 123 128 (by decide +kernel : decode cX1_refusalOf 120 = .ok (.ifCond .ne 8, 3)) rfl rfl (fun c22 => ?_) (fun c22 => ?_)
            · have h := it2 h c22
              refine jB C [(.iconst 0, 1, 0)] 129 [(0, .ref (b + v0)), (1, .ref (b + v1)), (2, .int v2), (3, .int v3), (4, .int v4), (5, .int v5)] [.int 0] (by decide +kernel) rfl rfl ?_
              exact jRetI C (by decide +kernel : decode cX1_refusalOf 129 = .ok (.ireturn, 1)) (Nat.le_refl _) (Nat.le_refl _) ⟨rfl, h⟩
            · have h := it1 h c22
              refine jB C [(.bipush (-3), 2, (-3))] 125 [(0, .ref (b + v0)), (1, .ref (b + v1)), (2, .int v2), (3, .int v3), (4, .int v4), (5, .int v5)] [.int (-3)] (by decide +kernel) rfl rfl ?_
              refine jGoto C 129 (by decide +kernel : decode cX1_refusalOf 125 = .ok (.goto 4, 3)) rfl ?_
              exact jRetI C (by decide +kernel : decode cX1_refusalOf 129 = .ok (.ireturn, 1)) (Nat.le_refl _) (Nat.le_refl _) ⟨rfl, h⟩
          · have h := it1 h c19
            refine jB C [(.bipush (-2), 2, (-2))] 114 [(0, .ref (b + v0)), (1, .ref (b + v1)), (2, .int v2), (3, .int v3), (4, .int v4), (5, .int v5)] [.int (-2)] (by decide +kernel) rfl rfl ?_
            exact jRetI C (by decide +kernel : decode cX1_refusalOf 114 = .ok (.ireturn, 1)) (Nat.le_refl _) (Nat.le_refl _) ⟨rfl, h⟩
        · have h := it2 h c26_3
          refine jTabOut C 130 (by decide +kernel : decode cX1_refusalOf 1 = .ok (.tableswitch 129 0 3 #[31, 41, 71, 103], 31)) rfl (by have := lv_neT c26_0 (a := 0) rfl; have := lv_neT c26_1 (a := 1) rfl; have := lv_neT c26_2 (a := 2) rfl; have := lv_neT c26_3 (a := 3) rfl; omega) ?_
          refine jB C [(.aload_n 1, 1, 0), (.iconst 0, 1, 0)] 132 [(0, .ref (b + v0)), (1, .ref (b + v1)), (2, .int v2), (3, .int v3), (4, .int v4), (5, .int v5)] [.int 0, .ref (b + v1)] (by decide +kernel) rfl rfl ?_
          refine jcVN_I C 135 (rest := []) (ok_X5_termOf t_v1 h) (by decide +kernel : decode cX1_refusalOf 132 = .ok (.invokevirtual 87, 3)) rfl wn_831 wd_418 wp_11 wd_2 wd_419 ⟨rfl, rfl⟩ hd_X5_termOf ⟨Nat.le_of_ble_eq_true rfl, Nat.le_of_ble_eq_true rfl⟩ t_v1 kX5 (by decide) rfl rfl rfl (Nat.le_of_ble_eq_true rfl) ⟨Nat.zero_le _, Nat.zero_le _⟩ (fun r24 S23 h => ?_)
          refine jB C [(.sipush 999, 3, 999)] 138 [(0, .ref (b + v0)), (1, .ref (b + v1)), (2, .int v2), (3, .int v3), (4, .int v4), (5, .int v5)] [.int 999, .int r24] (by decide +kernel) rfl rfl ?_
          refine jIcmp_lt C 141 146 (by decide +kernel : decode cX1_refusalOf 138 = .ok (.if_icmp .lt 8, 3)) rfl rfl (fun c25 => ?_) (fun c25 => ?_)
          · have h := it1 h c25
            refine jB C [(.iconst 0, 1, 0)] 147 [(0, .ref (b + v0)), (1, .ref (b + v1)), (2, .int v2), (3, .int v3), (4, .int v4), (5, .int v5)] [.int 0] (by decide +kernel) rfl rfl ?_
            exact jRetI C (by decide +kernel : decode cX1_refusalOf 147 = .ok (.ireturn, 1)) (Nat.le_refl _) (Nat.le_refl _) ⟨rfl, h⟩
          · have h := it2 h c25
            refine jB C [(.bipush (-3), 2, (-3))] 143 [(0, .ref (b + v0)), (1, .ref (b + v1)), (2, .int v2), (3, .int v3), (4, .int v4), (5, .int v5)] [.int (-3)] (by decide +kernel) rfl rfl ?_
            refine jGoto C 147 (by decide +kernel : decode cX1_refusalOf 143 = .ok (.goto 4, 3)) rfl ?_
            exact jRetI C (by decide +kernel : decode cX1_refusalOf 147 = .ok (.ireturn, 1)) (Nat.le_refl _) (Nat.le_refl _) ⟨rfl, h⟩
theorem ok_X1_refusalOf {G : Gm} {v0 : Nat} {v1 : Nat} {v2 : Int32} {v3 : Int32} {v4 : Int32} {v5 : Int32} {S : St} {Q : Int32 → St → Prop}  (t_v0 : ok G 1 v0) (t_v1 : ok G 4 v1) (h : f_X1_refusalOf G v0 v1 v2 v3 v4 v5 Q S) : MT yX1_refusalOf cX1_refusalOf 6 (some .int) rm_X1_refusalOf 0 0 (fun b => [.ref (b + v0), .ref (b + v1), .int v2, .int v3, .int v4, .int v5]) G S (QI (fun r G1 S1 => G1 = G ∧ Q r S1)) := MT.ofJ (by decide +kernel) (fun b => [(0, .ref (b + v0)), (1, .ref (b + v1)), (2, .int v2), (3, .int v3), (4, .int v4), (5, .int v5)]) (fun b => rfl) (fun b => Nat.le_of_ble_eq_true rfl) (fun l b D cy p e s m below meth c C hE hn => j_X1_refusalOf C hE t_v0 t_v1 h)
theorem hd_X1_refusalOf : yX1_refusalOf.cls ≠ "java/lang/invoke/MethodHandle" ∧ yX1_refusalOf.cls ≠ "java/lang/invoke/VarHandle" ∧ (parseMethodDescriptor yX1_refusalOf.desc).map (fun d => d.parameters.length) = some 5 := by decide +kernel
abbrev rm_X9_remember : Room := { frames := 1, cells := 0, slots := 0, locals := 60 }
set_option maxHeartbeats 4000000 in
set_option maxRecDepth 100000 in
theorem j_X9_remember {p : Program} {l : Launch} {e : Env} {s : State} {m : MethodId} {args : Array Value} {below : List Frame} {meth : Method} {c : Code} {b : Nat} {D : va_G} {cy : Nat → ClassId} {G : Gm} {v0 : Nat} {v1 : Nat} {v2 : Int32} {S : St} {Q : St → Prop} (C : CX p s m args meth c b D cy cX9_remember RX9 4 none) (hE : s.heap.size + 0 ≤ b + G.2.2) (t_v0 : ok G 8 v0) (t_v1 : ok G 4 v1) (h : f_X9_remember G v0 v1 v2 Q S) : J p l e rm_X9_remember s m args below meth c b D cy 4 (zV b D cy below args s G Q) 0 0 G S 0 [(0, .ref (b + v0)), (1, .ref (b + v1)), (2, .int v2)] [] := by
  unfold f_X9_remember at h
  refine jB C [(.aload_n 0, 1, 0)] 1 [(0, .ref (b + v0)), (1, .ref (b + v1)), (2, .int v2)] [.ref (b + v0)] (by decide +kernel) rfl rfl ?_
  refine jGetI C 4 (by decide +kernel : decode cX9_remember 1 = .ok (.getfield 25, 3)) rfl t_v0 kX9 1 (by decide) rfl rfl (by decide) wd_90 ?_
  refine jB C [(.bipush 16, 2, 16)] 6 [(0, .ref (b + v0)), (1, .ref (b + v1)), (2, .int v2)] [.int 16, .int (S.1 v0 1)] (by decide +kernel) rfl rfl ?_
  refine jcS_I C 9 (rest := []) (ok_J9_floorMod_7cf53 h) (by decide +kernel : decode cX9_remember 6 = .ok (.invokestatic 28, 3)) rfl wd_836 wd_837 wd_11 wd_838 ⟨rfl, rfl⟩ hd_J9_floorMod_7cf53 ⟨Nat.le_of_ble_eq_true rfl, Nat.le_of_ble_eq_true rfl⟩ rfl rfl (Nat.le_of_ble_eq_true rfl) ⟨Nat.zero_le _, Nat.zero_le _⟩ (fun r2 S1 h => ?_)
  refine jB C [(.bipush 32, 2, 32), (.imul, 1, 0)] 12 [(0, .ref (b + v0)), (1, .ref (b + v1)), (2, .int v2)] [.int (r2 * 32)] (by decide +kernel) rfl rfl ?_
  refine jTopI (fun x3 e_x3 => ?_)
  have h := h x3 e_x3
  refine jB C [(.istore_n 3, 1, 0), (.aload_n 1, 1, 0)] 14 [(3, .int x3), (0, .ref (b + v0)), (1, .ref (b + v1)), (2, .int v2)] [.ref (b + v1)] (by decide +kernel) rfl rfl ?_
  obtain ⟨a4, e_a4, h⟩ := h
  refine jGetRN C 17 (by decide +kernel : decode cX9_remember 14 = .ok (.getfield 34, 3)) rfl t_v1 kX5 1 (by decide) rfl rfl (by decide) wn_41 e_a4 rfl (fun t_a4 => ?_)
  refine jB C [(.iconst 0, 1, 0), (.aload_n 0, 1, 0)] 19 [(3, .int x3), (0, .ref (b + v0)), (1, .ref (b + v1)), (2, .int v2)] [.ref (b + v0), .int 0, .ref (b + a4)] (by decide +kernel) rfl rfl ?_
  obtain ⟨a5, e_a5, h⟩ := h
  refine jGetR C 22 (by decide +kernel : decode cX9_remember 19 = .ok (.getfield 11, 3)) rfl t_v0 kX9 0 (by decide) rfl rfl (by decide) wd_89 e_a5 rfl (fun t_a5 => ?_)
  refine jB C [(.iload_n 3, 1, 0), (.bipush 24, 2, 24)] 25 [(3, .int x3), (0, .ref (b + v0)), (1, .ref (b + v1)), (2, .int v2)] [.int 24, .int x3, .ref (b + a5), .int 0, .ref (b + a4)] (by decide +kernel) rfl rfl ?_
  obtain ⟨y6, h⟩ := h
  refine jCopy C 28 (by decide +kernel : decode cX9_remember 25 = .ok (.invokestatic 19, 3)) rfl hE t_a4 t_a5 y6 wd_789 (Nat.le_of_ble_eq_true rfl) (Nat.le_of_ble_eq_true rfl) (Nat.le_of_ble_eq_true rfl) ?_
  refine jTopS (fun S7 e_S7 => ?_)
  have h := h S7 e_S7
  refine jB C [(.aload_n 1, 1, 0)] 29 [(3, .int x3), (0, .ref (b + v0)), (1, .ref (b + v1)), (2, .int v2)] [.ref (b + v1)] (by decide +kernel) rfl rfl ?_
  obtain ⟨a8, e_a8, h⟩ := h
  refine jGetRN C 32 (by decide +kernel : decode cX9_remember 29 = .ok (.getfield 39, 3)) rfl t_v1 kX5 2 (by decide) rfl rfl (by decide) wn_43 e_a8 rfl (fun t_a8 => ?_)
  refine jB C [(.iconst 0, 1, 0), (.aload_n 0, 1, 0)] 34 [(3, .int x3), (0, .ref (b + v0)), (1, .ref (b + v1)), (2, .int v2)] [.ref (b + v0), .int 0, .ref (b + a8)] (by decide +kernel) rfl rfl ?_
  obtain ⟨a9, e_a9, h⟩ := h
  refine jGetR C 37 (by decide +kernel : decode cX9_remember 34 = .ok (.getfield 11, 3)) rfl t_v0 kX9 0 (by decide) rfl rfl (by decide) wd_89 e_a9 rfl (fun t_a9 => ?_)
  refine jB C [(.iload_n 3, 1, 0), (.bipush 24, 2, 24), (.iadd, 1, 0), (.bipush 6, 2, 6)] 43 [(3, .int x3), (0, .ref (b + v0)), (1, .ref (b + v1)), (2, .int v2)] [.int 6, .int (x3 + 24), .ref (b + a9), .int 0, .ref (b + a8)] (by decide +kernel) rfl rfl ?_
  obtain ⟨y10, h⟩ := h
  refine jCopy C 46 (by decide +kernel : decode cX9_remember 43 = .ok (.invokestatic 19, 3)) rfl hE t_a8 t_a9 y10 wd_789 (Nat.le_of_ble_eq_true rfl) (Nat.le_of_ble_eq_true rfl) (Nat.le_of_ble_eq_true rfl) ?_
  refine jTopS (fun S11 e_S11 => ?_)
  have h := h S11 e_S11
  refine jB C [(.aload_n 0, 1, 0)] 47 [(3, .int x3), (0, .ref (b + v0)), (1, .ref (b + v1)), (2, .int v2)] [.ref (b + v0)] (by decide +kernel) rfl rfl ?_
  obtain ⟨a12, e_a12, h⟩ := h
  refine jGetR C 50 (by decide +kernel : decode cX9_remember 47 = .ok (.getfield 11, 3)) rfl t_v0 kX9 0 (by decide) rfl rfl (by decide) wd_89 e_a12 rfl (fun t_a12 => ?_)
  refine jB C [(.iload_n 3, 1, 0), (.bipush 30, 2, 30), (.iadd, 1, 0), (.aload_n 1, 1, 0), (.iconst 0, 1, 0)] 56 [(3, .int x3), (0, .ref (b + v0)), (1, .ref (b + v1)), (2, .int v2)] [.int 0, .ref (b + v1), .int (x3 + 30), .ref (b + a12)] (by decide +kernel) rfl rfl ?_
  refine jcVN_I C 59 (rest := [.int (x3 + 30), .ref (b + a12)]) (ok_X5_termOf t_v1 h) (by decide +kernel : decode cX9_remember 56 = .ok (.invokevirtual 42, 3)) rfl wn_839 wd_418 wp_11 wd_2 wd_419 ⟨rfl, rfl⟩ hd_X5_termOf ⟨Nat.le_of_ble_eq_true rfl, Nat.le_of_ble_eq_true rfl⟩ t_v1 kX5 (by decide) rfl rfl rfl (Nat.le_of_ble_eq_true rfl) ⟨Nat.zero_le _, Nat.zero_le _⟩ (fun r14 S13 h => ?_)
  obtain ⟨y15, h⟩ := h
  refine jIast C 60 (by decide +kernel : decode cX9_remember 59 = .ok (.iastore, 1)) rfl hE t_a12 y15 ?_
  refine jTopS (fun S16 e_S16 => ?_)
  have h := h S16 e_S16
  refine jB C [(.aload_n 0, 1, 0)] 61 [(3, .int x3), (0, .ref (b + v0)), (1, .ref (b + v1)), (2, .int v2)] [.ref (b + v0)] (by decide +kernel) rfl rfl ?_
  obtain ⟨a17, e_a17, h⟩ := h
  refine jGetR C 64 (by decide +kernel : decode cX9_remember 61 = .ok (.getfield 11, 3)) rfl t_v0 kX9 0 (by decide) rfl rfl (by decide) wd_89 e_a17 rfl (fun t_a17 => ?_)
  refine jB C [(.iload_n 3, 1, 0), (.bipush 31, 2, 31), (.iadd, 1, 0), (.iload_n 2, 1, 0)] 69 [(3, .int x3), (0, .ref (b + v0)), (1, .ref (b + v1)), (2, .int v2)] [.int v2, .int (x3 + 31), .ref (b + a17)] (by decide +kernel) rfl rfl ?_
  obtain ⟨y18, h⟩ := h
  refine jIast C 70 (by decide +kernel : decode cX9_remember 69 = .ok (.iastore, 1)) rfl hE t_a17 y18 ?_
  refine jTopS (fun S19 e_S19 => ?_)
  have h := h S19 e_S19
  refine jB C [(.aload_n 0, 1, 0), (.aload_n 0, 1, 0)] 72 [(3, .int x3), (0, .ref (b + v0)), (1, .ref (b + v1)), (2, .int v2)] [.ref (b + v0), .ref (b + v0)] (by decide +kernel) rfl rfl ?_
  refine jGetI C 75 (by decide +kernel : decode cX9_remember 72 = .ok (.getfield 25, 3)) rfl t_v0 kX9 1 (by decide) rfl rfl (by decide) wd_90 ?_
  refine jB C [(.iconst 1, 1, 1), (.iadd, 1, 0), (.bipush 16, 2, 16)] 79 [(3, .int x3), (0, .ref (b + v0)), (1, .ref (b + v1)), (2, .int v2)] [.int 16, .int ((S19.1 v0 1) + 1), .ref (b + v0)] (by decide +kernel) rfl rfl ?_
  refine jcS_I C 82 (rest := [.ref (b + v0)]) (ok_J9_floorMod_7cf53 h) (by decide +kernel : decode cX9_remember 79 = .ok (.invokestatic 28, 3)) rfl wd_836 wd_837 wd_11 wd_838 ⟨rfl, rfl⟩ hd_J9_floorMod_7cf53 ⟨Nat.le_of_ble_eq_true rfl, Nat.le_of_ble_eq_true rfl⟩ rfl rfl (Nat.le_of_ble_eq_true rfl) ⟨Nat.zero_le _, Nat.zero_le _⟩ (fun r21 S20 h => ?_)
  refine jPutI C 85 (by decide +kernel : decode cX9_remember 82 = .ok (.putfield 25, 3)) rfl hE t_v0 kX9 1 (by decide) rfl rfl (by decide) rfl wd_90 rfl rfl rfl ?_
  refine jTopS (fun S22 e_S22 => ?_)
  have h := h S22 e_S22
  refine jB C [(.aload_n 0, 1, 0), (.aload_n 0, 1, 0)] 87 [(3, .int x3), (0, .ref (b + v0)), (1, .ref (b + v1)), (2, .int v2)] [.ref (b + v0), .ref (b + v0)] (by decide +kernel) rfl rfl ?_
  refine jGetI C 90 (by decide +kernel : decode cX9_remember 87 = .ok (.getfield 15, 3)) rfl t_v0 kX9 2 (by decide) rfl rfl (by decide) wd_91 ?_
  refine jB C [(.iconst 1, 1, 1), (.iadd, 1, 0), (.bipush 16, 2, 16)] 94 [(3, .int x3), (0, .ref (b + v0)), (1, .ref (b + v1)), (2, .int v2)] [.int 16, .int ((S22.1 v0 2) + 1), .ref (b + v0)] (by decide +kernel) rfl rfl ?_
  refine jMin C 97 (by decide +kernel : decode cX9_remember 94 = .ok (.invokestatic 46, 3)) rfl wd_840 (Nat.le_of_ble_eq_true rfl) (Nat.le_of_ble_eq_true rfl) (Nat.le_of_ble_eq_true rfl) (Nat.zero_le _) (Nat.zero_le _) ?_
  refine jPutI C 100 (by decide +kernel : decode cX9_remember 97 = .ok (.putfield 15, 3)) rfl hE t_v0 kX9 2 (by decide) rfl rfl (by decide) rfl wd_91 rfl rfl rfl ?_
  refine jTopS (fun S23 e_S23 => ?_)
  have h := h S23 e_S23
  exact jRetV C (by decide +kernel : decode cX9_remember 100 = .ok (.return_, 1)) (Nat.le_refl _) (Nat.le_refl _) ⟨rfl, h⟩
theorem ok_X9_remember {G : Gm} {v0 : Nat} {v1 : Nat} {v2 : Int32} {S : St} {Q : St → Prop}  (t_v0 : ok G 8 v0) (t_v1 : ok G 4 v1) (h : f_X9_remember G v0 v1 v2 Q S) : MT yX9_remember cX9_remember 4 none rm_X9_remember 0 0 (fun b => [.ref (b + v0), .ref (b + v1), .int v2]) G S (QV (fun G1 S1 => G1 = G ∧ Q S1)) := MT.ofJ (by decide +kernel) (fun b => [(0, .ref (b + v0)), (1, .ref (b + v1)), (2, .int v2)]) (fun b => rfl) (fun b => Nat.le_of_ble_eq_true rfl) (fun l b D cy p e s m below meth c C hE hn => j_X9_remember C hE t_v0 t_v1 h)
theorem hd_X9_remember : yX9_remember.cls ≠ "java/lang/invoke/MethodHandle" ∧ yX9_remember.cls ≠ "java/lang/invoke/VarHandle" ∧ (parseMethodDescriptor yX9_remember.desc).map (fun d => d.parameters.length) = some 2 := by decide +kernel
