abbrev rm_X6_lawWord : Room := { frames := 0, cells := 0, slots := 0, locals := 0 }
set_option maxHeartbeats 4000000 in
set_option maxRecDepth 100000 in
theorem j_X6_lawWord {p : Program} {l : Launch} {e : Env} {s : State} {m : MethodId} {args : Array Value} {below : List Frame} {meth : Method} {c : Code} {b : Nat} {D : va_G} {cy : Nat → ClassId} {G : Gm} {v0 : Int32} {S : St} {Q : Int32 → St → Prop} (C : CX p s m args meth c b D cy cX6_lawWord RX6 1 (some .int)) (hE : s.heap.size + 0 ≤ b + G.2.2) (h : f_X6_lawWord G v0 Q S) : J p l e rm_X6_lawWord s m args below meth c b D cy 1 (zI b D cy below args s G Q) 0 0 G S 0 [(0, .int v0)] [] := by
  unfold f_X6_lawWord at h
  refine jB C [(.iload_n 0, 1, 0)] 1 [(0, .int v0)] [.int v0] (by decide +kernel) rfl rfl ?_
  by_cases c1_0 : v0 = 4
  · have h := it1 h c1_0
    refine jTabIn C 100 4 (by decide +kernel : decode cX6_lawWord 1 = .ok (.tableswitch 116 4 23 #[99, 116, 116, 116, 116, 116, 116, 116, 116, 116, 116, 116, 95, 97, 101, 103, 105, 107, 110, 113], 95)) c1_0 ⟨rfl, rfl, rfl, rfl⟩ ?_
    refine jB C [(.iconst 2, 1, 2)] 101 [(0, .int v0)] [.int 2] (by decide +kernel) rfl rfl ?_
    exact jRetI C (by decide +kernel : decode cX6_lawWord 101 = .ok (.ireturn, 1)) (Nat.le_refl _) (Nat.le_refl _) ⟨rfl, h⟩
  · have h := it2 h c1_0
    by_cases c1_1 : v0 = 5
    · have h := it1 h c1_1
      refine jTabIn C 117 5 (by decide +kernel : decode cX6_lawWord 1 = .ok (.tableswitch 116 4 23 #[99, 116, 116, 116, 116, 116, 116, 116, 116, 116, 116, 116, 95, 97, 101, 103, 105, 107, 110, 113], 95)) c1_1 ⟨rfl, rfl, rfl, rfl⟩ ?_
      refine jB C [(.iconst (-1), 1, (-1))] 118 [(0, .int v0)] [.int (-1)] (by decide +kernel) rfl rfl ?_
      exact jRetI C (by decide +kernel : decode cX6_lawWord 118 = .ok (.ireturn, 1)) (Nat.le_refl _) (Nat.le_refl _) ⟨rfl, h⟩
    · have h := it2 h c1_1
      by_cases c1_2 : v0 = 6
      · have h := it1 h c1_2
        refine jTabIn C 117 6 (by decide +kernel : decode cX6_lawWord 1 = .ok (.tableswitch 116 4 23 #[99, 116, 116, 116, 116, 116, 116, 116, 116, 116, 116, 116, 95, 97, 101, 103, 105, 107, 110, 113], 95)) c1_2 ⟨rfl, rfl, rfl, rfl⟩ ?_
        refine jB C [(.iconst (-1), 1, (-1))] 118 [(0, .int v0)] [.int (-1)] (by decide +kernel) rfl rfl ?_
        exact jRetI C (by decide +kernel : decode cX6_lawWord 118 = .ok (.ireturn, 1)) (Nat.le_refl _) (Nat.le_refl _) ⟨rfl, h⟩
      · have h := it2 h c1_2
        by_cases c1_3 : v0 = 7
        · have h := it1 h c1_3
          refine jTabIn C 117 7 (by decide +kernel : decode cX6_lawWord 1 = .ok (.tableswitch 116 4 23 #[99, 116, 116, 116, 116, 116, 116, 116, 116, 116, 116, 116, 95, 97, 101, 103, 105, 107, 110, 113], 95)) c1_3 ⟨rfl, rfl, rfl, rfl⟩ ?_
          refine jB C [(.iconst (-1), 1, (-1))] 118 [(0, .int v0)] [.int (-1)] (by decide +kernel) rfl rfl ?_
          exact jRetI C (by decide +kernel : decode cX6_lawWord 118 = .ok (.ireturn, 1)) (Nat.le_refl _) (Nat.le_refl _) ⟨rfl, h⟩
        · have h := it2 h c1_3
          by_cases c1_4 : v0 = 8
          · have h := it1 h c1_4
            refine jTabIn C 117 8 (by decide +kernel : decode cX6_lawWord 1 = .ok (.tableswitch 116 4 23 #[99, 116, 116, 116, 116, 116, 116, 116, 116, 116, 116, 116, 95, 97, 101, 103, 105, 107, 110, 113], 95)) c1_4 ⟨rfl, rfl, rfl, rfl⟩ ?_
            refine jB C [(.iconst (-1), 1, (-1))] 118 [(0, .int v0)] [.int (-1)] (by decide +kernel) rfl rfl ?_
            exact jRetI C (by decide +kernel : decode cX6_lawWord 118 = .ok (.ireturn, 1)) (Nat.le_refl _) (Nat.le_refl _) ⟨rfl, h⟩
          · have h := it2 h c1_4
            by_cases c1_5 : v0 = 9
            · have h := it1 h c1_5
              refine jTabIn C 117 9 (by decide +kernel : decode cX6_lawWord 1 = .ok (.tableswitch 116 4 23 #[99, 116, 116, 116, 116, 116, 116, 116, 116, 116, 116, 116, 95, 97, 101, 103, 105, 107, 110, 113], 95)) c1_5 ⟨rfl, rfl, rfl, rfl⟩ ?_
              refine jB C [(.iconst (-1), 1, (-1))] 118 [(0, .int v0)] [.int (-1)] (by decide +kernel) rfl rfl ?_
              exact jRetI C (by decide +kernel : decode cX6_lawWord 118 = .ok (.ireturn, 1)) (Nat.le_refl _) (Nat.le_refl _) ⟨rfl, h⟩
            · have h := it2 h c1_5
              by_cases c1_6 : v0 = 10
              · have h := it1 h c1_6
                refine jTabIn C 117 10 (by decide +kernel : decode cX6_lawWord 1 = .ok (.tableswitch 116 4 23 #[99, 116, 116, 116, 116, 116, 116, 116, 116, 116, 116, 116, 95, 97, 101, 103, 105, 107, 110, 113], 95)) c1_6 ⟨rfl, rfl, rfl, rfl⟩ ?_
                refine jB C [(.iconst (-1), 1, (-1))] 118 [(0, .int v0)] [.int (-1)] (by decide +kernel) rfl rfl ?_
                exact jRetI C (by decide +kernel : decode cX6_lawWord 118 = .ok (.ireturn, 1)) (Nat.le_refl _) (Nat.le_refl _) ⟨rfl, h⟩
              · have h := it2 h c1_6
                by_cases c1_7 : v0 = 11
                · have h := it1 h c1_7
                  refine jTabIn C 117 11 (by decide +kernel : decode cX6_lawWord 1 = .ok (.tableswitch 116 4 23 #[99, 116, 116, 116, 116, 116, 116, 116, 116, 116, 116, 116, 95, 97, 101, 103, 105, 107, 110, 113], 95)) c1_7 ⟨rfl, rfl, rfl, rfl⟩ ?_
                  refine jB C [(.iconst (-1), 1, (-1))] 118 [(0, .int v0)] [.int (-1)] (by decide +kernel) rfl rfl ?_
                  exact jRetI C (by decide +kernel : decode cX6_lawWord 118 = .ok (.ireturn, 1)) (Nat.le_refl _) (Nat.le_refl _) ⟨rfl, h⟩
                · have h := it2 h c1_7
                  by_cases c1_8 : v0 = 12
                  · have h := it1 h c1_8
                    refine jTabIn C 117 12 (by decide +kernel : decode cX6_lawWord 1 = .ok (.tableswitch 116 4 23 #[99, 116, 116, 116, 116, 116, 116, 116, 116, 116, 116, 116, 95, 97, 101, 103, 105, 107, 110, 113], 95)) c1_8 ⟨rfl, rfl, rfl, rfl⟩ ?_
                    refine jB C [(.iconst (-1), 1, (-1))] 118 [(0, .int v0)] [.int (-1)] (by decide +kernel) rfl rfl ?_
                    exact jRetI C (by decide +kernel : decode cX6_lawWord 118 = .ok (.ireturn, 1)) (Nat.le_refl _) (Nat.le_refl _) ⟨rfl, h⟩
                  · have h := it2 h c1_8
                    by_cases c1_9 : v0 = 13
                    · have h := it1 h c1_9
                      refine jTabIn C 117 13 (by decide +kernel : decode cX6_lawWord 1 = .ok (.tableswitch 116 4 23 #[99, 116, 116, 116, 116, 116, 116, 116, 116, 116, 116, 116, 95, 97, 101, 103, 105, 107, 110, 113], 95)) c1_9 ⟨rfl, rfl, rfl, rfl⟩ ?_
                      refine jB C [(.iconst (-1), 1, (-1))] 118 [(0, .int v0)] [.int (-1)] (by decide +kernel) rfl rfl ?_
                      exact jRetI C (by decide +kernel : decode cX6_lawWord 118 = .ok (.ireturn, 1)) (Nat.le_refl _) (Nat.le_refl _) ⟨rfl, h⟩
                    · have h := it2 h c1_9
                      by_cases c1_10 : v0 = 14
                      · have h := it1 h c1_10
                        refine jTabIn C 117 14 (by decide +kernel : decode cX6_lawWord 1 = .ok (.tableswitch 116 4 23 #[99, 116, 116, 116, 116, 116, 116, 116, 116, 116, 116, 116, 95, 97, 101, 103, 105, 107, 110, 113], 95)) c1_10 ⟨rfl, rfl, rfl, rfl⟩ ?_
                        refine jB C [(.iconst (-1), 1, (-1))] 118 [(0, .int v0)] [.int (-1)] (by decide +kernel) rfl rfl ?_
                        exact jRetI C (by decide +kernel : decode cX6_lawWord 118 = .ok (.ireturn, 1)) (Nat.le_refl _) (Nat.le_refl _) ⟨rfl, h⟩
                      · have h := it2 h c1_10
                        by_cases c1_11 : v0 = 15
                        · have h := it1 h c1_11
                          refine jTabIn C 117 15 (by decide +kernel : decode cX6_lawWord 1 = .ok (.tableswitch 116 4 23 #[99, 116, 116, 116, 116, 116, 116, 116, 116, 116, 116, 116, 95, 97, 101, 103, 105, 107, 110, 113], 95)) c1_11 ⟨rfl, rfl, rfl, rfl⟩ ?_
                          refine jB C [(.iconst (-1), 1, (-1))] 118 [(0, .int v0)] [.int (-1)] (by decide +kernel) rfl rfl ?_
                          exact jRetI C (by decide +kernel : decode cX6_lawWord 118 = .ok (.ireturn, 1)) (Nat.le_refl _) (Nat.le_refl _) ⟨rfl, h⟩
                        · have h := it2 h c1_11
                          by_cases c1_12 : v0 = 16
                          · have h := it1 h c1_12
                            refine jTabIn C 96 16 (by decide +kernel : decode cX6_lawWord 1 = .ok (.tableswitch 116 4 23 #[99, 116, 116, 116, 116, 116, 116, 116, 116, 116, 116, 116, 95, 97, 101, 103, 105, 107, 110, 113], 95)) c1_12 ⟨rfl, rfl, rfl, rfl⟩ ?_
                            refine jB C [(.iconst 0, 1, 0)] 97 [(0, .int v0)] [.int 0] (by decide +kernel) rfl rfl ?_
                            exact jRetI C (by decide +kernel : decode cX6_lawWord 97 = .ok (.ireturn, 1)) (Nat.le_refl _) (Nat.le_refl _) ⟨rfl, h⟩
                          · have h := it2 h c1_12
                            by_cases c1_13 : v0 = 17
                            · have h := it1 h c1_13
                              refine jTabIn C 98 17 (by decide +kernel : decode cX6_lawWord 1 = .ok (.tableswitch 116 4 23 #[99, 116, 116, 116, 116, 116, 116, 116, 116, 116, 116, 116, 95, 97, 101, 103, 105, 107, 110, 113], 95)) c1_13 ⟨rfl, rfl, rfl, rfl⟩ ?_
                              refine jB C [(.iconst 1, 1, 1)] 99 [(0, .int v0)] [.int 1] (by decide +kernel) rfl rfl ?_
                              exact jRetI C (by decide +kernel : decode cX6_lawWord 99 = .ok (.ireturn, 1)) (Nat.le_refl _) (Nat.le_refl _) ⟨rfl, h⟩
                            · have h := it2 h c1_13
                              by_cases c1_14 : v0 = 18
                              · have h := it1 h c1_14
                                refine jTabIn C 102 18 (by decide +kernel : decode cX6_lawWord 1 = .ok (.tableswitch 116 4 23 #[99, 116, 116, 116, 116, 116, 116, 116, 116, 116, 116, 116, 95, 97, 101, 103, 105, 107, 110, 113], 95)) c1_14 ⟨rfl, rfl, rfl, rfl⟩ ?_
                                refine jB C [(.iconst 3, 1, 3)] 103 [(0, .int v0)] [.int 3] (by decide +kernel) rfl rfl ?_
                                exact jRetI C (by decide +kernel : decode cX6_lawWord 103 = .ok (.ireturn, 1)) (Nat.le_refl _) (Nat.le_refl _) ⟨rfl, h⟩
                              · have h := it2 h c1_14
                                by_cases c1_15 : v0 = 19
                                · have h := it1 h c1_15
                                  refine jTabIn C 104 19 (by decide +kernel : decode cX6_lawWord 1 = .ok (.tableswitch 116 4 23 #[99, 116, 116, 116, 116, 116, 116, 116, 116, 116, 116, 116, 95, 97, 101, 103, 105, 107, 110, 113], 95)) c1_15 ⟨rfl, rfl, rfl, rfl⟩ ?_
                                  refine jB C [(.iconst 4, 1, 4)] 105 [(0, .int v0)] [.int 4] (by decide +kernel) rfl rfl ?_
                                  exact jRetI C (by decide +kernel : decode cX6_lawWord 105 = .ok (.ireturn, 1)) (Nat.le_refl _) (Nat.le_refl _) ⟨rfl, h⟩
                                · have h := it2 h c1_15
                                  by_cases c1_16 : v0 = 20
                                  · have h := it1 h c1_16
                                    refine jTabIn C 106 20 (by decide +kernel : decode cX6_lawWord 1 = .ok (.tableswitch 116 4 23 #[99, 116, 116, 116, 116, 116, 116, 116, 116, 116, 116, 116, 95, 97, 101, 103, 105, 107, 110, 113], 95)) c1_16 ⟨rfl, rfl, rfl, rfl⟩ ?_
                                    refine jB C [(.iconst 5, 1, 5)] 107 [(0, .int v0)] [.int 5] (by decide +kernel) rfl rfl ?_
                                    exact jRetI C (by decide +kernel : decode cX6_lawWord 107 = .ok (.ireturn, 1)) (Nat.le_refl _) (Nat.le_refl _) ⟨rfl, h⟩
                                  · have h := it2 h c1_16
                                    by_cases c1_17 : v0 = 21
                                    · have h := it1 h c1_17
                                      refine jTabIn C 108 21 (by decide +kernel : decode cX6_lawWord 1 = .ok (.tableswitch 116 4 23 #[99, 116, 116, 116, 116, 116, 116, 116, 116, 116, 116, 116, 95, 97, 101, 103, 105, 107, 110, 113], 95)) c1_17 ⟨rfl, rfl, rfl, rfl⟩ ?_
                                      refine jB C [(.bipush 6, 2, 6)] 110 [(0, .int v0)] [.int 6] (by decide +kernel) rfl rfl ?_
                                      exact jRetI C (by decide +kernel : decode cX6_lawWord 110 = .ok (.ireturn, 1)) (Nat.le_refl _) (Nat.le_refl _) ⟨rfl, h⟩
                                    · have h := it2 h c1_17
                                      by_cases c1_18 : v0 = 22
                                      · have h := it1 h c1_18
                                        refine jTabIn C 111 22 (by decide +kernel : decode cX6_lawWord 1 = .ok (.tableswitch 116 4 23 #[99, 116, 116, 116, 116, 116, 116, 116, 116, 116, 116, 116, 95, 97, 101, 103, 105, 107, 110, 113], 95)) c1_18 ⟨rfl, rfl, rfl, rfl⟩ ?_
                                        refine jB C [(.bipush 7, 2, 7)] 113 [(0, .int v0)] [.int 7] (by decide +kernel) rfl rfl ?_
                                        exact jRetI C (by decide +kernel : decode cX6_lawWord 113 = .ok (.ireturn, 1)) (Nat.le_refl _) (Nat.le_refl _) ⟨rfl, h⟩
                                      · have h := it2 h c1_18
                                        by_cases c1_19 : v0 = 23
                                        · have h := it1 h c1_19
                                          refine jTabIn C 114 23 (by decide +kernel : decode cX6_lawWord 1 = .ok (.tableswitch 116 4 23 #[99, 116, 116, 116, 116, 116, 116, 116, 116, 116, 116, 116, 95, 97, 101, 103, 105, 107, 110, 113], 95)) c1_19 ⟨rfl, rfl, rfl, rfl⟩ ?_
                                          refine jB C [(.bipush 8, 2, 8)] 116 [(0, .int v0)] [.int 8] (by decide +kernel) rfl rfl ?_
                                          exact jRetI C (by decide +kernel : decode cX6_lawWord 116 = .ok (.ireturn, 1)) (Nat.le_refl _) (Nat.le_refl _) ⟨rfl, h⟩
                                        · have h := it2 h c1_19
                                          refine jTabOut C 117 (by decide +kernel : decode cX6_lawWord 1 = .ok (.tableswitch 116 4 23 #[99, 116, 116, 116, 116, 116, 116, 116, 116, 116, 116, 116, 95, 97, 101, 103, 105, 107, 110, 113], 95)) rfl (by have := lv_neT c1_0 (a := 4) rfl; have := lv_neT c1_1 (a := 5) rfl; have := lv_neT c1_2 (a := 6) rfl; have := lv_neT c1_3 (a := 7) rfl; have := lv_neT c1_4 (a := 8) rfl; have := lv_neT c1_5 (a := 9) rfl; have := lv_neT c1_6 (a := 10) rfl; have := lv_neT c1_7 (a := 11) rfl; have := lv_neT c1_8 (a := 12) rfl; have := lv_neT c1_9 (a := 13) rfl; have := lv_neT c1_10 (a := 14) rfl; have := lv_neT c1_11 (a := 15) rfl; have := lv_neT c1_12 (a := 16) rfl; have := lv_neT c1_13 (a := 17) rfl; have := lv_neT c1_14 (a := 18) rfl; have := lv_neT c1_15 (a := 19) rfl; have := lv_neT c1_16 (a := 20) rfl; have := lv_neT c1_17 (a := 21) rfl; have := lv_neT c1_18 (a := 22) rfl; have := lv_neT c1_19 (a := 23) rfl; omega) ?_
                                          refine jB C [(.iconst (-1), 1, (-1))] 118 [(0, .int v0)] [.int (-1)] (by decide +kernel) rfl rfl ?_
                                          exact jRetI C (by decide +kernel : decode cX6_lawWord 118 = .ok (.ireturn, 1)) (Nat.le_refl _) (Nat.le_refl _) ⟨rfl, h⟩
theorem ok_X6_lawWord {G : Gm} {v0 : Int32} {S : St} {Q : Int32 → St → Prop}  (h : f_X6_lawWord G v0 Q S) : MT yX6_lawWord cX6_lawWord 1 (some .int) rm_X6_lawWord 0 0 (fun b => [.int v0]) G S (QI (fun r G1 S1 => G1 = G ∧ Q r S1)) := MT.ofJ (by decide +kernel) (fun b => [(0, .int v0)]) (fun b => rfl) (fun b => Nat.le_of_ble_eq_true rfl) (fun l b D cy p e s m below meth c C hE hn => j_X6_lawWord C hE h)
theorem hd_X6_lawWord : yX6_lawWord.cls ≠ "java/lang/invoke/MethodHandle" ∧ yX6_lawWord.cls ≠ "java/lang/invoke/VarHandle" ∧ (parseMethodDescriptor yX6_lawWord.desc).map (fun d => d.parameters.length) = some 1 := by decide +kernel
abbrev rm_X6_orderWord : Room := { frames := 0, cells := 0, slots := 0, locals := 0 }
set_option maxHeartbeats 4000000 in
set_option maxRecDepth 100000 in
theorem j_X6_orderWord {p : Program} {l : Launch} {e : Env} {s : State} {m : MethodId} {args : Array Value} {below : List Frame} {meth : Method} {c : Code} {b : Nat} {D : va_G} {cy : Nat → ClassId} {G : Gm} {v0 : Int32} {S : St} {Q : Int32 → St → Prop} (C : CX p s m args meth c b D cy cX6_orderWord RX6 1 (some .int)) (hE : s.heap.size + 0 ≤ b + G.2.2) (h : f_X6_orderWord G v0 Q S) : J p l e rm_X6_orderWord s m args below meth c b D cy 1 (zI b D cy below args s G Q) 0 0 G S 0 [(0, .int v0)] [] := by
  unfold f_X6_orderWord at h
  refine jB C [(.iload_n 0, 1, 0)] 1 [(0, .int v0)] [.int v0] (by decide +kernel) rfl rfl ?_
  by_cases c1_0 : v0 = 2
  · have h := it1 h c1_0
    refine jTabIn C 129 2 (by decide +kernel : decode cX6_orderWord 1 = .ok (.tableswitch 131 2 26 #[128, 131, 131, 131, 131, 131, 131, 131, 131, 131, 131, 131, 131, 131, 131, 131, 123, 125, 131, 131, 115, 131, 117, 119, 121], 115)) c1_0 ⟨rfl, rfl, rfl, rfl⟩ ?_
    refine jB C [(.bipush 16, 2, 16)] 131 [(0, .int v0)] [.int 16] (by decide +kernel) rfl rfl ?_
    exact jRetI C (by decide +kernel : decode cX6_orderWord 131 = .ok (.ireturn, 1)) (Nat.le_refl _) (Nat.le_refl _) ⟨rfl, h⟩
  · have h := it2 h c1_0
    by_cases c1_1 : v0 = 3
    · have h := it1 h c1_1
      refine jTabIn C 132 3 (by decide +kernel : decode cX6_orderWord 1 = .ok (.tableswitch 131 2 26 #[128, 131, 131, 131, 131, 131, 131, 131, 131, 131, 131, 131, 131, 131, 131, 131, 123, 125, 131, 131, 115, 131, 117, 119, 121], 115)) c1_1 ⟨rfl, rfl, rfl, rfl⟩ ?_
      refine jB C [(.iconst (-1), 1, (-1))] 133 [(0, .int v0)] [.int (-1)] (by decide +kernel) rfl rfl ?_
      exact jRetI C (by decide +kernel : decode cX6_orderWord 133 = .ok (.ireturn, 1)) (Nat.le_refl _) (Nat.le_refl _) ⟨rfl, h⟩
    · have h := it2 h c1_1
      by_cases c1_2 : v0 = 4
      · have h := it1 h c1_2
        refine jTabIn C 132 4 (by decide +kernel : decode cX6_orderWord 1 = .ok (.tableswitch 131 2 26 #[128, 131, 131, 131, 131, 131, 131, 131, 131, 131, 131, 131, 131, 131, 131, 131, 123, 125, 131, 131, 115, 131, 117, 119, 121], 115)) c1_2 ⟨rfl, rfl, rfl, rfl⟩ ?_
        refine jB C [(.iconst (-1), 1, (-1))] 133 [(0, .int v0)] [.int (-1)] (by decide +kernel) rfl rfl ?_
        exact jRetI C (by decide +kernel : decode cX6_orderWord 133 = .ok (.ireturn, 1)) (Nat.le_refl _) (Nat.le_refl _) ⟨rfl, h⟩
      · have h := it2 h c1_2
        by_cases c1_3 : v0 = 5
        · have h := it1 h c1_3
          refine jTabIn C 132 5 (by decide +kernel : decode cX6_orderWord 1 = .ok (.tableswitch 131 2 26 #[128, 131, 131, 131, 131, 131, 131, 131, 131, 131, 131, 131, 131, 131, 131, 131, 123, 125, 131, 131, 115, 131, 117, 119, 121], 115)) c1_3 ⟨rfl, rfl, rfl, rfl⟩ ?_
          refine jB C [(.iconst (-1), 1, (-1))] 133 [(0, .int v0)] [.int (-1)] (by decide +kernel) rfl rfl ?_
          exact jRetI C (by decide +kernel : decode cX6_orderWord 133 = .ok (.ireturn, 1)) (Nat.le_refl _) (Nat.le_refl _) ⟨rfl, h⟩
        · have h := it2 h c1_3
          by_cases c1_4 : v0 = 6
          · have h := it1 h c1_4
            refine jTabIn C 132 6 (by decide +kernel : decode cX6_orderWord 1 = .ok (.tableswitch 131 2 26 #[128, 131, 131, 131, 131, 131, 131, 131, 131, 131, 131, 131, 131, 131, 131, 131, 123, 125, 131, 131, 115, 131, 117, 119, 121], 115)) c1_4 ⟨rfl, rfl, rfl, rfl⟩ ?_
            refine jB C [(.iconst (-1), 1, (-1))] 133 [(0, .int v0)] [.int (-1)] (by decide +kernel) rfl rfl ?_
            exact jRetI C (by decide +kernel : decode cX6_orderWord 133 = .ok (.ireturn, 1)) (Nat.le_refl _) (Nat.le_refl _) ⟨rfl, h⟩
          · have h := it2 h c1_4
            by_cases c1_5 : v0 = 7
            · have h := it1 h c1_5
              refine jTabIn C 132 7 (by decide +kernel : decode cX6_orderWord 1 = .ok (.tableswitch 131 2 26 #[128, 131, 131, 131, 131, 131, 131, 131, 131, 131, 131, 131, 131, 131, 131, 131, 123, 125, 131, 131, 115, 131, 117, 119, 121], 115)) c1_5 ⟨rfl, rfl, rfl, rfl⟩ ?_
              refine jB C [(.iconst (-1), 1, (-1))] 133 [(0, .int v0)] [.int (-1)] (by decide +kernel) rfl rfl ?_
              exact jRetI C (by decide +kernel : decode cX6_orderWord 133 = .ok (.ireturn, 1)) (Nat.le_refl _) (Nat.le_refl _) ⟨rfl, h⟩
            · have h := it2 h c1_5
              by_cases c1_6 : v0 = 8
              · have h := it1 h c1_6
                refine jTabIn C 132 8 (by decide +kernel : decode cX6_orderWord 1 = .ok (.tableswitch 131 2 26 #[128, 131, 131, 131, 131, 131, 131, 131, 131, 131, 131, 131, 131, 131, 131, 131, 123, 125, 131, 131, 115, 131, 117, 119, 121], 115)) c1_6 ⟨rfl, rfl, rfl, rfl⟩ ?_
                refine jB C [(.iconst (-1), 1, (-1))] 133 [(0, .int v0)] [.int (-1)] (by decide +kernel) rfl rfl ?_
                exact jRetI C (by decide +kernel : decode cX6_orderWord 133 = .ok (.ireturn, 1)) (Nat.le_refl _) (Nat.le_refl _) ⟨rfl, h⟩
              · have h := it2 h c1_6
                by_cases c1_7 : v0 = 9
                · have h := it1 h c1_7
                  refine jTabIn C 132 9 (by decide +kernel : decode cX6_orderWord 1 = .ok (.tableswitch 131 2 26 #[128, 131, 131, 131, 131, 131, 131, 131, 131, 131, 131, 131, 131, 131, 131, 131, 123, 125, 131, 131, 115, 131, 117, 119, 121], 115)) c1_7 ⟨rfl, rfl, rfl, rfl⟩ ?_
                  refine jB C [(.iconst (-1), 1, (-1))] 133 [(0, .int v0)] [.int (-1)] (by decide +kernel) rfl rfl ?_
                  exact jRetI C (by decide +kernel : decode cX6_orderWord 133 = .ok (.ireturn, 1)) (Nat.le_refl _) (Nat.le_refl _) ⟨rfl, h⟩
                · have h := it2 h c1_7
                  by_cases c1_8 : v0 = 10
                  · have h := it1 h c1_8
                    refine jTabIn C 132 10 (by decide +kernel : decode cX6_orderWord 1 = .ok (.tableswitch 131 2 26 #[128, 131, 131, 131, 131, 131, 131, 131, 131, 131, 131, 131, 131, 131, 131, 131, 123, 125, 131, 131, 115, 131, 117, 119, 121], 115)) c1_8 ⟨rfl, rfl, rfl, rfl⟩ ?_
                    refine jB C [(.iconst (-1), 1, (-1))] 133 [(0, .int v0)] [.int (-1)] (by decide +kernel) rfl rfl ?_
                    exact jRetI C (by decide +kernel : decode cX6_orderWord 133 = .ok (.ireturn, 1)) (Nat.le_refl _) (Nat.le_refl _) ⟨rfl, h⟩
                  · have h := it2 h c1_8
                    by_cases c1_9 : v0 = 11
                    · have h := it1 h c1_9
                      refine jTabIn C 132 11 (by decide +kernel : decode cX6_orderWord 1 = .ok (.tableswitch 131 2 26 #[128, 131, 131, 131, 131, 131, 131, 131, 131, 131, 131, 131, 131, 131, 131, 131, 123, 125, 131, 131, 115, 131, 117, 119, 121], 115)) c1_9 ⟨rfl, rfl, rfl, rfl⟩ ?_
                      refine jB C [(.iconst (-1), 1, (-1))] 133 [(0, .int v0)] [.int (-1)] (by decide +kernel) rfl rfl ?_
                      exact jRetI C (by decide +kernel : decode cX6_orderWord 133 = .ok (.ireturn, 1)) (Nat.le_refl _) (Nat.le_refl _) ⟨rfl, h⟩
                    · have h := it2 h c1_9
                      by_cases c1_10 : v0 = 12
                      · have h := it1 h c1_10
                        refine jTabIn C 132 12 (by decide +kernel : decode cX6_orderWord 1 = .ok (.tableswitch 131 2 26 #[128, 131, 131, 131, 131, 131, 131, 131, 131, 131, 131, 131, 131, 131, 131, 131, 123, 125, 131, 131, 115, 131, 117, 119, 121], 115)) c1_10 ⟨rfl, rfl, rfl, rfl⟩ ?_
                        refine jB C [(.iconst (-1), 1, (-1))] 133 [(0, .int v0)] [.int (-1)] (by decide +kernel) rfl rfl ?_
                        exact jRetI C (by decide +kernel : decode cX6_orderWord 133 = .ok (.ireturn, 1)) (Nat.le_refl _) (Nat.le_refl _) ⟨rfl, h⟩
                      · have h := it2 h c1_10
                        by_cases c1_11 : v0 = 13
                        · have h := it1 h c1_11
                          refine jTabIn C 132 13 (by decide +kernel : decode cX6_orderWord 1 = .ok (.tableswitch 131 2 26 #[128, 131, 131, 131, 131, 131, 131, 131, 131, 131, 131, 131, 131, 131, 131, 131, 123, 125, 131, 131, 115, 131, 117, 119, 121], 115)) c1_11 ⟨rfl, rfl, rfl, rfl⟩ ?_
                          refine jB C [(.iconst (-1), 1, (-1))] 133 [(0, .int v0)] [.int (-1)] (by decide +kernel) rfl rfl ?_
                          exact jRetI C (by decide +kernel : decode cX6_orderWord 133 = .ok (.ireturn, 1)) (Nat.le_refl _) (Nat.le_refl _) ⟨rfl, h⟩
                        · have h := it2 h c1_11
                          by_cases c1_12 : v0 = 14
                          · have h := it1 h c1_12
                            refine jTabIn C 132 14 (by decide +kernel : decode cX6_orderWord 1 = .ok (.tableswitch 131 2 26 #[128, 131, 131, 131, 131, 131, 131, 131, 131, 131, 131, 131, 131, 131, 131, 131, 123, 125, 131, 131, 115, 131, 117, 119, 121], 115)) c1_12 ⟨rfl, rfl, rfl, rfl⟩ ?_
                            refine jB C [(.iconst (-1), 1, (-1))] 133 [(0, .int v0)] [.int (-1)] (by decide +kernel) rfl rfl ?_
                            exact jRetI C (by decide +kernel : decode cX6_orderWord 133 = .ok (.ireturn, 1)) (Nat.le_refl _) (Nat.le_refl _) ⟨rfl, h⟩
                          · have h := it2 h c1_12
                            by_cases c1_13 : v0 = 15
                            · have h := it1 h c1_13
                              refine jTabIn C 132 15 (by decide +kernel : decode cX6_orderWord 1 = .ok (.tableswitch 131 2 26 #[128, 131, 131, 131, 131, 131, 131, 131, 131, 131, 131, 131, 131, 131, 131, 131, 123, 125, 131, 131, 115, 131, 117, 119, 121], 115)) c1_13 ⟨rfl, rfl, rfl, rfl⟩ ?_
                              refine jB C [(.iconst (-1), 1, (-1))] 133 [(0, .int v0)] [.int (-1)] (by decide +kernel) rfl rfl ?_
                              exact jRetI C (by decide +kernel : decode cX6_orderWord 133 = .ok (.ireturn, 1)) (Nat.le_refl _) (Nat.le_refl _) ⟨rfl, h⟩
                            · have h := it2 h c1_13
                              by_cases c1_14 : v0 = 16
                              · have h := it1 h c1_14
                                refine jTabIn C 132 16 (by decide +kernel : decode cX6_orderWord 1 = .ok (.tableswitch 131 2 26 #[128, 131, 131, 131, 131, 131, 131, 131, 131, 131, 131, 131, 131, 131, 131, 131, 123, 125, 131, 131, 115, 131, 117, 119, 121], 115)) c1_14 ⟨rfl, rfl, rfl, rfl⟩ ?_
                                refine jB C [(.iconst (-1), 1, (-1))] 133 [(0, .int v0)] [.int (-1)] (by decide +kernel) rfl rfl ?_
                                exact jRetI C (by decide +kernel : decode cX6_orderWord 133 = .ok (.ireturn, 1)) (Nat.le_refl _) (Nat.le_refl _) ⟨rfl, h⟩
                              · have h := it2 h c1_14
                                by_cases c1_15 : v0 = 17
                                · have h := it1 h c1_15
                                  refine jTabIn C 132 17 (by decide +kernel : decode cX6_orderWord 1 = .ok (.tableswitch 131 2 26 #[128, 131, 131, 131, 131, 131, 131, 131, 131, 131, 131, 131, 131, 131, 131, 131, 123, 125, 131, 131, 115, 131, 117, 119, 121], 115)) c1_15 ⟨rfl, rfl, rfl, rfl⟩ ?_
                                  refine jB C [(.iconst (-1), 1, (-1))] 133 [(0, .int v0)] [.int (-1)] (by decide +kernel) rfl rfl ?_
                                  exact jRetI C (by decide +kernel : decode cX6_orderWord 133 = .ok (.ireturn, 1)) (Nat.le_refl _) (Nat.le_refl _) ⟨rfl, h⟩
                                · have h := it2 h c1_15
                                  by_cases c1_16 : v0 = 18
                                  · have h := it1 h c1_16
                                    refine jTabIn C 124 18 (by decide +kernel : decode cX6_orderWord 1 = .ok (.tableswitch 131 2 26 #[128, 131, 131, 131, 131, 131, 131, 131, 131, 131, 131, 131, 131, 131, 131, 131, 123, 125, 131, 131, 115, 131, 117, 119, 121], 115)) c1_16 ⟨rfl, rfl, rfl, rfl⟩ ?_
                                    refine jB C [(.iconst 4, 1, 4)] 125 [(0, .int v0)] [.int 4] (by decide +kernel) rfl rfl ?_
                                    exact jRetI C (by decide +kernel : decode cX6_orderWord 125 = .ok (.ireturn, 1)) (Nat.le_refl _) (Nat.le_refl _) ⟨rfl, h⟩
                                  · have h := it2 h c1_16
                                    by_cases c1_17 : v0 = 19
                                    · have h := it1 h c1_17
                                      refine jTabIn C 126 19 (by decide +kernel : decode cX6_orderWord 1 = .ok (.tableswitch 131 2 26 #[128, 131, 131, 131, 131, 131, 131, 131, 131, 131, 131, 131, 131, 131, 131, 131, 123, 125, 131, 131, 115, 131, 117, 119, 121], 115)) c1_17 ⟨rfl, rfl, rfl, rfl⟩ ?_
                                      refine jB C [(.bipush 10, 2, 10)] 128 [(0, .int v0)] [.int 10] (by decide +kernel) rfl rfl ?_
                                      exact jRetI C (by decide +kernel : decode cX6_orderWord 128 = .ok (.ireturn, 1)) (Nat.le_refl _) (Nat.le_refl _) ⟨rfl, h⟩
                                    · have h := it2 h c1_17
                                      by_cases c1_18 : v0 = 20
                                      · have h := it1 h c1_18
                                        refine jTabIn C 132 20 (by decide +kernel : decode cX6_orderWord 1 = .ok (.tableswitch 131 2 26 #[128, 131, 131, 131, 131, 131, 131, 131, 131, 131, 131, 131, 131, 131, 131, 131, 123, 125, 131, 131, 115, 131, 117, 119, 121], 115)) c1_18 ⟨rfl, rfl, rfl, rfl⟩ ?_
                                        refine jB C [(.iconst (-1), 1, (-1))] 133 [(0, .int v0)] [.int (-1)] (by decide +kernel) rfl rfl ?_
                                        exact jRetI C (by decide +kernel : decode cX6_orderWord 133 = .ok (.ireturn, 1)) (Nat.le_refl _) (Nat.le_refl _) ⟨rfl, h⟩
                                      · have h := it2 h c1_18
                                        by_cases c1_19 : v0 = 21
                                        · have h := it1 h c1_19
                                          refine jTabIn C 132 21 (by decide +kernel : decode cX6_orderWord 1 = .ok (.tableswitch 131 2 26 #[128, 131, 131, 131, 131, 131, 131, 131, 131, 131, 131, 131, 131, 131, 131, 131, 123, 125, 131, 131, 115, 131, 117, 119, 121], 115)) c1_19 ⟨rfl, rfl, rfl, rfl⟩ ?_
                                          refine jB C [(.iconst (-1), 1, (-1))] 133 [(0, .int v0)] [.int (-1)] (by decide +kernel) rfl rfl ?_
                                          exact jRetI C (by decide +kernel : decode cX6_orderWord 133 = .ok (.ireturn, 1)) (Nat.le_refl _) (Nat.le_refl _) ⟨rfl, h⟩
                                        · have h := it2 h c1_19
                                          by_cases c1_20 : v0 = 22
                                          · have h := it1 h c1_20
                                            refine jTabIn C 116 22 (by decide +kernel : decode cX6_orderWord 1 = .ok (.tableswitch 131 2 26 #[128, 131, 131, 131, 131, 131, 131, 131, 131, 131, 131, 131, 131, 131, 131, 131, 123, 125, 131, 131, 115, 131, 117, 119, 121], 115)) c1_20 ⟨rfl, rfl, rfl, rfl⟩ ?_
                                            refine jB C [(.iconst 0, 1, 0)] 117 [(0, .int v0)] [.int 0] (by decide +kernel) rfl rfl ?_
                                            exact jRetI C (by decide +kernel : decode cX6_orderWord 117 = .ok (.ireturn, 1)) (Nat.le_refl _) (Nat.le_refl _) ⟨rfl, h⟩
                                          · have h := it2 h c1_20
                                            by_cases c1_21 : v0 = 23
                                            · have h := it1 h c1_21
                                              refine jTabIn C 132 23 (by decide +kernel : decode cX6_orderWord 1 = .ok (.tableswitch 131 2 26 #[128, 131, 131, 131, 131, 131, 131, 131, 131, 131, 131, 131, 131, 131, 131, 131, 123, 125, 131, 131, 115, 131, 117, 119, 121], 115)) c1_21 ⟨rfl, rfl, rfl, rfl⟩ ?_
                                              refine jB C [(.iconst (-1), 1, (-1))] 133 [(0, .int v0)] [.int (-1)] (by decide +kernel) rfl rfl ?_
                                              exact jRetI C (by decide +kernel : decode cX6_orderWord 133 = .ok (.ireturn, 1)) (Nat.le_refl _) (Nat.le_refl _) ⟨rfl, h⟩
                                            · have h := it2 h c1_21
                                              by_cases c1_22 : v0 = 24
                                              · have h := it1 h c1_22
                                                refine jTabIn C 118 24 (by decide +kernel : decode cX6_orderWord 1 = .ok (.tableswitch 131 2 26 #[128, 131, 131, 131, 131, 131, 131, 131, 131, 131, 131, 131, 131, 131, 131, 131, 123, 125, 131, 131, 115, 131, 117, 119, 121], 115)) c1_22 ⟨rfl, rfl, rfl, rfl⟩ ?_
                                                refine jB C [(.iconst 1, 1, 1)] 119 [(0, .int v0)] [.int 1] (by decide +kernel) rfl rfl ?_
                                                exact jRetI C (by decide +kernel : decode cX6_orderWord 119 = .ok (.ireturn, 1)) (Nat.le_refl _) (Nat.le_refl _) ⟨rfl, h⟩
                                              · have h := it2 h c1_22
                                                by_cases c1_23 : v0 = 25
                                                · have h := it1 h c1_23
                                                  refine jTabIn C 120 25 (by decide +kernel : decode cX6_orderWord 1 = .ok (.tableswitch 131 2 26 #[128, 131, 131, 131, 131, 131, 131, 131, 131, 131, 131, 131, 131, 131, 131, 131, 123, 125, 131, 131, 115, 131, 117, 119, 121], 115)) c1_23 ⟨rfl, rfl, rfl, rfl⟩ ?_
                                                  refine jB C [(.iconst 2, 1, 2)] 121 [(0, .int v0)] [.int 2] (by decide +kernel) rfl rfl ?_
                                                  exact jRetI C (by decide +kernel : decode cX6_orderWord 121 = .ok (.ireturn, 1)) (Nat.le_refl _) (Nat.le_refl _) ⟨rfl, h⟩
                                                · have h := it2 h c1_23
                                                  by_cases c1_24 : v0 = 26
                                                  · have h := it1 h c1_24
                                                    refine jTabIn C 122 26 (by decide +kernel : decode cX6_orderWord 1 = .ok (.tableswitch 131 2 26 #[128, 131, 131, 131, 131, 131, 131, 131, 131, 131, 131, 131, 131, 131, 131, 131, 123, 125, 131, 131, 115, 131, 117, 119, 121], 115)) c1_24 ⟨rfl, rfl, rfl, rfl⟩ ?_
                                                    refine jB C [(.iconst 3, 1, 3)] 123 [(0, .int v0)] [.int 3] (by decide +kernel) rfl rfl ?_
                                                    exact jRetI C (by decide +kernel : decode cX6_orderWord 123 = .ok (.ireturn, 1)) (Nat.le_refl _) (Nat.le_refl _) ⟨rfl, h⟩
                                                  · have h := it2 h c1_24
                                                    refine jTabOut C 132 (by decide +kernel : decode cX6_orderWord 1 = .ok (.tableswitch 131 2 26 #[128, 131, 131, 131, 131, 131, 131, 131, 131, 131, 131, 131, 131, 131, 131, 131, 123, 125, 131, 131, 115, 131, 117, 119, 121], 115)) rfl (by have := lv_neT c1_0 (a := 2) rfl; have := lv_neT c1_1 (a := 3) rfl; have := lv_neT c1_2 (a := 4) rfl; have := lv_neT c1_3 (a := 5) rfl; have := lv_neT c1_4 (a := 6) rfl; have := lv_neT c1_5 (a := 7) rfl; have := lv_neT c1_6 (a := 8) rfl; have := lv_neT c1_7 (a := 9) rfl; have := lv_neT c1_8 (a := 10) rfl; have := lv_neT c1_9 (a := 11) rfl; have := lv_neT c1_10 (a := 12) rfl; have := lv_neT c1_11 (a := 13) rfl; have := lv_neT c1_12 (a := 14) rfl; have := lv_neT c1_13 (a := 15) rfl; have := lv_neT c1_14 (a := 16) rfl; have := lv_neT c1_15 (a := 17) rfl; have := lv_neT c1_16 (a := 18) rfl; have := lv_neT c1_17 (a := 19) rfl; have := lv_neT c1_18 (a := 20) rfl; have := lv_neT c1_19 (a := 21) rfl; have := lv_neT c1_20 (a := 22) rfl; have := lv_neT c1_21 (a := 23) rfl; have := lv_neT c1_22 (a := 24) rfl; have := lv_neT c1_23 (a := 25) rfl; have := lv_neT c1_24 (a := 26) rfl; omega) ?_
                                                    refine jB C [(.iconst (-1), 1, (-1))] 133 [(0, .int v0)] [.int (-1)] (by decide +kernel) rfl rfl ?_
                                                    exact jRetI C (by decide +kernel : decode cX6_orderWord 133 = .ok (.ireturn, 1)) (Nat.le_refl _) (Nat.le_refl _) ⟨rfl, h⟩
theorem ok_X6_orderWord {G : Gm} {v0 : Int32} {S : St} {Q : Int32 → St → Prop}  (h : f_X6_orderWord G v0 Q S) : MT yX6_orderWord cX6_orderWord 1 (some .int) rm_X6_orderWord 0 0 (fun b => [.int v0]) G S (QI (fun r G1 S1 => G1 = G ∧ Q r S1)) := MT.ofJ (by decide +kernel) (fun b => [(0, .int v0)]) (fun b => rfl) (fun b => Nat.le_of_ble_eq_true rfl) (fun l b D cy p e s m below meth c C hE hn => j_X6_orderWord C hE h)
theorem hd_X6_orderWord : yX6_orderWord.cls ≠ "java/lang/invoke/MethodHandle" ∧ yX6_orderWord.cls ≠ "java/lang/invoke/VarHandle" ∧ (parseMethodDescriptor yX6_orderWord.desc).map (fun d => d.parameters.length) = some 1 := by decide +kernel
abbrev rm_X8_put : Room := { frames := 0, cells := 0, slots := 0, locals := 0 }
set_option maxHeartbeats 4000000 in
set_option maxRecDepth 100000 in
theorem j_X8_put_43 {p : Program} {l : Launch} {e : Env} {s : State} {m : MethodId} {args : Array Value} {below : List Frame} {meth : Method} {c : Code} {b : Nat} {D : va_G} {cy : Nat → ClassId} {G : Gm} {v0 : Nat} {v1 : Int32} {v2 : Int32} {v3 : Int32} {S : St} {Q : Int32 → St → Prop} (C : CX p s m args meth c b D cy cX8_put RX8 5 (some .int)) (hE : s.heap.size + 0 ≤ b + G.2.2) (t_v0 : ok G 7 v0) (h : f_X8_put_43 G v0 v1 v2 v3 Q S) : J p l e rm_X8_put s m args below meth c b D cy 5 (zI b D cy below args s G Q) 0 0 G S 43 [(0, .ref (b + v0)), (1, .int v1), (2, .int v2), (3, .int v3)] [] := by
  unfold f_X8_put_43 at h
  refine jB C [(.aload_n 0, 1, 0)] 44 [(0, .ref (b + v0)), (1, .int v1), (2, .int v2), (3, .int v3)] [.ref (b + v0)] (by decide +kernel) rfl rfl ?_
  refine jGetI C 47 (by decide +kernel : decode cX8_put 44 = .ok (.getfield 31, 3)) rfl t_v0 kX8 5 (by decide) rfl rfl (by decide) wd_255 ?_
  refine jB C [(.iconst 1, 1, 1), (.isub, 1, 0)] 49 [(0, .ref (b + v0)), (1, .int v1), (2, .int v2), (3, .int v3)] [.int ((S.1 v0 5) - 1)] (by decide +kernel) rfl rfl ?_
  refine jTopI (fun x1 e_x1 => ?_)
  have h := h x1 e_x1
  refine jB C [(.istore 4, 2, 0), (.iload_n 1, 1, 0), (.iconst 1, 1, 1)] 53 [(4, .int x1), (0, .ref (b + v0)), (1, .int v1), (2, .int v2), (3, .int v3)] [.int 1, .int v1] (by decide +kernel) rfl rfl ?_
  refine jIcmp_ne C 56 84 (by decide +kernel : decode cX8_put 53 = .ok (.if_icmp .ne 31, 3)) rfl rfl (fun c2 => ?_) (fun c2 => ?_)
  · have h := it2 h c2
    refine jB C [(.iload_n 3, 1, 0)] 85 [(4, .int x1), (0, .ref (b + v0)), (1, .int v1), (2, .int v2), (3, .int v3)] [.int v3] (by decide +kernel) rfl rfl ?_
    exact jRetI C (by decide +kernel : decode cX8_put 85 = .ok (.ireturn, 1)) (Nat.le_refl _) (Nat.le_refl _) ⟨rfl, h⟩
  · have h := it1 h c2
    refine jB C [(.iload 4, 2, 0)] 58 [(4, .int x1), (0, .ref (b + v0)), (1, .int v1), (2, .int v2), (3, .int v3)] [.int x1] (by decide +kernel) rfl rfl ?_
    refine jIf_lt C 61 84 (by decide +kernel : decode cX8_put 58 = .ok (.ifCond .lt 26, 3)) rfl rfl (fun c3 => ?_) (fun c3 => ?_)
    · have h := it1 h c3
      refine jB C [(.iload_n 3, 1, 0)] 85 [(4, .int x1), (0, .ref (b + v0)), (1, .int v1), (2, .int v2), (3, .int v3)] [.int v3] (by decide +kernel) rfl rfl ?_
      exact jRetI C (by decide +kernel : decode cX8_put 85 = .ok (.ireturn, 1)) (Nat.le_refl _) (Nat.le_refl _) ⟨rfl, h⟩
    · have h := it2 h c3
      refine jB C [(.iload 4, 2, 0), (.aload_n 0, 1, 0)] 64 [(4, .int x1), (0, .ref (b + v0)), (1, .int v1), (2, .int v2), (3, .int v3)] [.ref (b + v0), .int x1] (by decide +kernel) rfl rfl ?_
      obtain ⟨a4, e_a4, h⟩ := h
      refine jGetR C 67 (by decide +kernel : decode cX8_put 64 = .ok (.getfield 22, 3)) rfl t_v0 kX8 2 (by decide) rfl rfl (by decide) wd_251 e_a4 rfl (fun t_a4 => ?_)
      refine jAlen11 C 68 (by decide +kernel : decode cX8_put 67 = .ok (.arraylength, 1)) rfl t_a4 ?_
      refine jIcmp_ge C 71 84 (by decide +kernel : decode cX8_put 68 = .ok (.if_icmp .ge 16, 3)) rfl rfl (fun c5 => ?_) (fun c5 => ?_)
      · have h := it1 h c5
        refine jB C [(.iload_n 3, 1, 0)] 85 [(4, .int x1), (0, .ref (b + v0)), (1, .int v1), (2, .int v2), (3, .int v3)] [.int v3] (by decide +kernel) rfl rfl ?_
        exact jRetI C (by decide +kernel : decode cX8_put 85 = .ok (.ireturn, 1)) (Nat.le_refl _) (Nat.le_refl _) ⟨rfl, h⟩
      · have h := it2 h c5
        refine jB C [(.aload_n 0, 1, 0)] 72 [(4, .int x1), (0, .ref (b + v0)), (1, .int v1), (2, .int v2), (3, .int v3)] [.ref (b + v0)] (by decide +kernel) rfl rfl ?_
        obtain ⟨a6, e_a6, h⟩ := h
        refine jGetR C 75 (by decide +kernel : decode cX8_put 72 = .ok (.getfield 22, 3)) rfl t_v0 kX8 2 (by decide) rfl rfl (by decide) wd_251 e_a6 rfl (fun t_a6 => ?_)
        refine jB C [(.iload 4, 2, 0), (.dup2, 1, 0)] 78 [(4, .int x1), (0, .ref (b + v0)), (1, .int v1), (2, .int v2), (3, .int v3)] [.int x1, .ref (b + a6), .int x1, .ref (b + a6)] (by decide +kernel) rfl rfl ?_
        obtain ⟨y7, h⟩ := h
        refine jIald C 79 (by decide +kernel : decode cX8_put 78 = .ok (.iaload, 1)) rfl t_a6 y7 ?_
        refine jB C [(.iconst 1, 1, 1), (.iload_n 2, 1, 0), (.ishl, 1, 0), (.ior, 1, 0)] 83 [(4, .int x1), (0, .ref (b + v0)), (1, .int v1), (2, .int v2), (3, .int v3)] [.int ((S.1 a6 x1.toNatClampNeg) ||| (1 <<< ((v2 : Int32) &&& 31))), .int x1, .ref (b + a6)] (by decide +kernel) rfl rfl ?_
        obtain ⟨y8, h⟩ := h
        refine jIast C 84 (by decide +kernel : decode cX8_put 83 = .ok (.iastore, 1)) rfl hE t_a6 y8 ?_
        refine jTopS (fun S9 e_S9 => ?_)
        have h := h S9 e_S9
        refine jB C [(.iload_n 3, 1, 0)] 85 [(4, .int x1), (0, .ref (b + v0)), (1, .int v1), (2, .int v2), (3, .int v3)] [.int v3] (by decide +kernel) rfl rfl ?_
        exact jRetI C (by decide +kernel : decode cX8_put 85 = .ok (.ireturn, 1)) (Nat.le_refl _) (Nat.le_refl _) ⟨rfl, h⟩
set_option maxHeartbeats 4000000 in
set_option maxRecDepth 100000 in
theorem j_X8_put {p : Program} {l : Launch} {e : Env} {s : State} {m : MethodId} {args : Array Value} {below : List Frame} {meth : Method} {c : Code} {b : Nat} {D : va_G} {cy : Nat → ClassId} {G : Gm} {v0 : Nat} {v1 : Int32} {v2 : Int32} {S : St} {Q : Int32 → St → Prop} (C : CX p s m args meth c b D cy cX8_put RX8 5 (some .int)) (hE : s.heap.size + 0 ≤ b + G.2.2) (t_v0 : ok G 7 v0) (h : f_X8_put G v0 v1 v2 Q S) : J p l e rm_X8_put s m args below meth c b D cy 5 (zI b D cy below args s G Q) 0 0 G S 0 [(0, .ref (b + v0)), (1, .int v1), (2, .int v2)] [] := by
  unfold f_X8_put at h
  refine jB C [(.aload_n 0, 1, 0)] 1 [(0, .ref (b + v0)), (1, .int v1), (2, .int v2)] [.ref (b + v0)] (by decide +kernel) rfl rfl ?_
  refine jGetI C 4 (by decide +kernel : decode cX8_put 1 = .ok (.getfield 35, 3)) rfl t_v0 kX8 6 (by decide) rfl rfl (by decide) wd_258 ?_
  refine jTopI (fun x1 e_x1 => ?_)
  have h := h x1 e_x1
  refine jB C [(.istore_n 3, 1, 0), (.iload_n 3, 1, 0)] 6 [(3, .int x1), (0, .ref (b + v0)), (1, .int v1), (2, .int v2)] [.int x1] (by decide +kernel) rfl rfl ?_
  refine jIf_lt C 9 43 (by decide +kernel : decode cX8_put 6 = .ok (.ifCond .lt 37, 3)) rfl rfl (fun c2 => ?_) (fun c2 => ?_)
  · have h := it1 h c2
    refine jSub [1, 2, 3, 0] rfl ?_
    exact j_X8_put_43 C hE t_v0 h
  · have h := it2 h c2
    refine jB C [(.iload_n 3, 1, 0), (.iconst 1, 1, 1), (.iadd, 1, 0), (.aload_n 0, 1, 0)] 13 [(3, .int x1), (0, .ref (b + v0)), (1, .int v1), (2, .int v2)] [.ref (b + v0), .int (x1 + 1)] (by decide +kernel) rfl rfl ?_
    obtain ⟨a3, e_a3, h⟩ := h
    refine jGetR C 16 (by decide +kernel : decode cX8_put 13 = .ok (.getfield 28, 3)) rfl t_v0 kX8 4 (by decide) rfl rfl (by decide) wd_253 e_a3 rfl (fun t_a3 => ?_)
    refine jAlen11 C 17 (by decide +kernel : decode cX8_put 16 = .ok (.arraylength, 1)) rfl t_a3 ?_
    refine jIcmp_ge C 20 43 (by decide +kernel : decode cX8_put 17 = .ok (.if_icmp .ge 26, 3)) rfl rfl (fun c4 => ?_) (fun c4 => ?_)
    · have h := it1 h c4
      refine jSub [1, 2, 3, 0] rfl ?_
      exact j_X8_put_43 C hE t_v0 h
    · have h := it2 h c4
      refine jB C [(.aload_n 0, 1, 0)] 21 [(3, .int x1), (0, .ref (b + v0)), (1, .int v1), (2, .int v2)] [.ref (b + v0)] (by decide +kernel) rfl rfl ?_
      obtain ⟨a5, e_a5, h⟩ := h
      refine jGetR C 24 (by decide +kernel : decode cX8_put 21 = .ok (.getfield 28, 3)) rfl t_v0 kX8 4 (by decide) rfl rfl (by decide) wd_253 e_a5 rfl (fun t_a5 => ?_)
      refine jB C [(.iload_n 3, 1, 0), (.iload_n 1, 1, 0)] 26 [(3, .int x1), (0, .ref (b + v0)), (1, .int v1), (2, .int v2)] [.int v1, .int x1, .ref (b + a5)] (by decide +kernel) rfl rfl ?_
      obtain ⟨y6, h⟩ := h
      refine jIast C 27 (by decide +kernel : decode cX8_put 26 = .ok (.iastore, 1)) rfl hE t_a5 y6 ?_
      refine jTopS (fun S7 e_S7 => ?_)
      have h := h S7 e_S7
      refine jB C [(.aload_n 0, 1, 0)] 28 [(3, .int x1), (0, .ref (b + v0)), (1, .int v1), (2, .int v2)] [.ref (b + v0)] (by decide +kernel) rfl rfl ?_
      obtain ⟨a8, e_a8, h⟩ := h
      refine jGetR C 31 (by decide +kernel : decode cX8_put 28 = .ok (.getfield 28, 3)) rfl t_v0 kX8 4 (by decide) rfl rfl (by decide) wd_253 e_a8 rfl (fun t_a8 => ?_)
      refine jB C [(.iload_n 3, 1, 0), (.iconst 1, 1, 1), (.iadd, 1, 0), (.iload_n 2, 1, 0)] 35 [(3, .int x1), (0, .ref (b + v0)), (1, .int v1), (2, .int v2)] [.int v2, .int (x1 + 1), .ref (b + a8)] (by decide +kernel) rfl rfl ?_
      obtain ⟨y9, h⟩ := h
      refine jIast C 36 (by decide +kernel : decode cX8_put 35 = .ok (.iastore, 1)) rfl hE t_a8 y9 ?_
      refine jTopS (fun S10 e_S10 => ?_)
      have h := h S10 e_S10
      refine jB C [(.aload_n 0, 1, 0), (.iload_n 3, 1, 0), (.iconst 2, 1, 2), (.iadd, 1, 0)] 40 [(3, .int x1), (0, .ref (b + v0)), (1, .int v1), (2, .int v2)] [.int (x1 + 2), .ref (b + v0)] (by decide +kernel) rfl rfl ?_
      refine jPutI C 43 (by decide +kernel : decode cX8_put 40 = .ok (.putfield 35, 3)) rfl hE t_v0 kX8 6 (by decide) rfl rfl (by decide) rfl wd_258 rfl rfl rfl ?_
      refine jTopS (fun S11 e_S11 => ?_)
      have h := h S11 e_S11
      refine jSub [1, 2, 3, 0] rfl ?_
      exact j_X8_put_43 C hE t_v0 h
theorem ok_X8_put {G : Gm} {v0 : Nat} {v1 : Int32} {v2 : Int32} {S : St} {Q : Int32 → St → Prop}  (t_v0 : ok G 7 v0) (h : f_X8_put G v0 v1 v2 Q S) : MT yX8_put cX8_put 5 (some .int) rm_X8_put 0 0 (fun b => [.ref (b + v0), .int v1, .int v2]) G S (QI (fun r G1 S1 => G1 = G ∧ Q r S1)) := MT.ofJ (by decide +kernel) (fun b => [(0, .ref (b + v0)), (1, .int v1), (2, .int v2)]) (fun b => rfl) (fun b => Nat.le_of_ble_eq_true rfl) (fun l b D cy p e s m below meth c C hE hn => j_X8_put C hE t_v0 h)
theorem hd_X8_put : yX8_put.cls ≠ "java/lang/invoke/MethodHandle" ∧ yX8_put.cls ≠ "java/lang/invoke/VarHandle" ∧ (parseMethodDescriptor yX8_put.desc).map (fun d => d.parameters.length) = some 2 := by decide +kernel
abbrev rm_X6_simplePart : Room := { frames := 1, cells := 0, slots := 0, locals := 24 }
set_option maxHeartbeats 4000000 in
set_option maxRecDepth 100000 in
theorem j_X6_simplePart_151 {p : Program} {l : Launch} {e : Env} {s : State} {m : MethodId} {args : Array Value} {below : List Frame} {meth : Method} {c : Code} {b : Nat} {D : va_G} {cy : Nat → ClassId} {G : Gm} {u0 : Int32} {u1 : Int32} {u2 : Nat} {S : St} {Q : St → Prop} (C : CX p s m args meth c b D cy cX6_simplePart RX6 4 none) (hE : s.heap.size + 0 ≤ b + G.2.2) (t_u2 : ok G 7 u2) (h : f_X6_simplePart_151 G u0 u1 u2 Q S) : J p l e rm_X6_simplePart s m args below meth c b D cy 4 (zV b D cy below args s G Q) 0 0 G S 151 [] [.int u0, .int u1, .ref (b + u2)] := by
  unfold f_X6_simplePart_151 at h
  refine jcVN_I C 154 (rest := []) (ok_X8_put t_u2 h) (by decide +kernel : decode cX6_simplePart 151 = .ok (.invokevirtual 137, 3)) rfl wn_718 wd_720 wp_51 wd_10 wd_721 ⟨rfl, rfl⟩ hd_X8_put ⟨Nat.le_of_ble_eq_true rfl, Nat.le_of_ble_eq_true rfl⟩ t_u2 kX8 (by decide) rfl rfl rfl (Nat.le_of_ble_eq_true rfl) ⟨Nat.zero_le _, Nat.zero_le _⟩ (fun r2 S1 h => ?_)
  refine jB C [(.pop, 1, 0)] 155 [] [] (by decide +kernel) rfl rfl ?_
  exact jRetV C (by decide +kernel : decode cX6_simplePart 155 = .ok (.return_, 1)) (Nat.le_refl _) (Nat.le_refl _) ⟨rfl, h⟩
set_option maxHeartbeats 4000000 in
set_option maxRecDepth 100000 in
theorem j_X6_simplePart_141 {p : Program} {l : Launch} {e : Env} {s : State} {m : MethodId} {args : Array Value} {below : List Frame} {meth : Method} {c : Code} {b : Nat} {D : va_G} {cy : Nat → ClassId} {G : Gm} {v1 : Int32} {v2 : Int32} {u0 : Int32} {u1 : Nat} {S : St} {Q : St → Prop} (C : CX p s m args meth c b D cy cX6_simplePart RX6 4 none) (hE : s.heap.size + 0 ≤ b + G.2.2) (t_u1 : ok G 7 u1) (h : f_X6_simplePart_141 G v1 v2 u0 u1 Q S) : J p l e rm_X6_simplePart s m args below meth c b D cy 4 (zV b D cy below args s G Q) 0 0 G S 141 [(1, .int v1), (2, .int v2)] [.int u0, .ref (b + u1)] := by
  unfold f_X6_simplePart_141 at h
  refine jB C [(.iload_n 2, 1, 0), (.iconst (-1), 1, (-1))] 143 [(1, .int v1), (2, .int v2)] [.int (-1), .int v2, .int u0, .ref (b + u1)] (by decide +kernel) rfl rfl ?_
  refine jIcmp_ne C 146 150 (by decide +kernel : decode cX6_simplePart 143 = .ok (.if_icmp .ne 7, 3)) rfl rfl (fun c1 => ?_) (fun c1 => ?_)
  · have h := it2 h c1
    refine jB C [(.iload_n 2, 1, 0)] 151 [(1, .int v1), (2, .int v2)] [.int v2, .int u0, .ref (b + u1)] (by decide +kernel) rfl rfl ?_
    refine jSub [] rfl ?_
    exact j_X6_simplePart_151 C hE t_u1 h
  · have h := it1 h c1
    refine jB C [(.iload_n 1, 1, 0)] 147 [(1, .int v1), (2, .int v2)] [.int v1, .int u0, .ref (b + u1)] (by decide +kernel) rfl rfl ?_
    refine jGoto C 151 (by decide +kernel : decode cX6_simplePart 147 = .ok (.goto 4, 3)) rfl ?_
    refine jSub [] rfl ?_
    exact j_X6_simplePart_151 C hE t_u1 h
set_option maxHeartbeats 4000000 in
set_option maxRecDepth 100000 in
theorem j_X6_simplePart_127 {p : Program} {l : Launch} {e : Env} {s : State} {m : MethodId} {args : Array Value} {below : List Frame} {meth : Method} {c : Code} {b : Nat} {D : va_G} {cy : Nat → ClassId} {G : Gm} {v0 : Nat} {v1 : Int32} {v2 : Int32} {S : St} {Q : St → Prop} (C : CX p s m args meth c b D cy cX6_simplePart RX6 4 none) (hE : s.heap.size + 0 ≤ b + G.2.2) (t_v0 : ok G 5 v0) (h : f_X6_simplePart_127 G v0 v1 v2 Q S) : J p l e rm_X6_simplePart s m args below meth c b D cy 4 (zV b D cy below args s G Q) 0 0 G S 127 [(0, .ref (b + v0)), (1, .int v1), (2, .int v2)] [] := by
  unfold f_X6_simplePart_127 at h
  refine jB C [(.aload_n 0, 1, 0)] 128 [(0, .ref (b + v0)), (1, .int v1), (2, .int v2)] [.ref (b + v0)] (by decide +kernel) rfl rfl ?_
  obtain ⟨a1, e_a1, h⟩ := h
  refine jGetR C 131 (by decide +kernel : decode cX6_simplePart 128 = .ok (.getfield 33, 3)) rfl t_v0 kX6 10 (by decide) rfl rfl (by decide) wd_286 e_a1 rfl (fun t_a1 => ?_)
  refine jB C [(.iload_n 2, 1, 0), (.iconst (-1), 1, (-1))] 133 [(0, .ref (b + v0)), (1, .int v1), (2, .int v2)] [.int (-1), .int v2, .ref (b + a1)] (by decide +kernel) rfl rfl ?_
  refine jIcmp_ne C 136 140 (by decide +kernel : decode cX6_simplePart 133 = .ok (.if_icmp .ne 7, 3)) rfl rfl (fun c2 => ?_) (fun c2 => ?_)
  · have h := it2 h c2
    refine jB C [(.iconst 1, 1, 1)] 141 [(0, .ref (b + v0)), (1, .int v1), (2, .int v2)] [.int 1, .ref (b + a1)] (by decide +kernel) rfl rfl ?_
    refine jSub [1, 2] rfl ?_
    exact j_X6_simplePart_141 C hE t_a1 h
  · have h := it1 h c2
    refine jB C [(.iconst 0, 1, 0)] 137 [(0, .ref (b + v0)), (1, .int v1), (2, .int v2)] [.int 0, .ref (b + a1)] (by decide +kernel) rfl rfl ?_
    refine jGoto C 141 (by decide +kernel : decode cX6_simplePart 137 = .ok (.goto 4, 3)) rfl ?_
    refine jSub [1, 2] rfl ?_
    exact j_X6_simplePart_141 C hE t_a1 h
set_option maxHeartbeats 4000000 in
set_option maxRecDepth 100000 in
theorem j_X6_simplePart_108 {p : Program} {l : Launch} {e : Env} {s : State} {m : MethodId} {args : Array Value} {below : List Frame} {meth : Method} {c : Code} {b : Nat} {D : va_G} {cy : Nat → ClassId} {G : Gm} {v0 : Nat} {S : St} {Q : St → Prop} (C : CX p s m args meth c b D cy cX6_simplePart RX6 4 none) (hE : s.heap.size + 0 ≤ b + G.2.2) (t_v0 : ok G 5 v0) (h : f_X6_simplePart_108 G v0 Q S) : J p l e rm_X6_simplePart s m args below meth c b D cy 4 (zV b D cy below args s G Q) 0 0 G S 108 [(0, .ref (b + v0))] [] := by
  unfold f_X6_simplePart_108 at h
  refine jB C [(.aload_n 0, 1, 0)] 109 [(0, .ref (b + v0))] [.ref (b + v0)] (by decide +kernel) rfl rfl ?_
  refine jcV_V C 112 (rest := []) (ok_X6_fail t_v0 h) (by decide +kernel : decode cX6_simplePart 109 = .ok (.invokevirtual 67, 3)) rfl wd_680 wd_682 wp_43 wd_9 wd_683 ⟨rfl, rfl⟩ hd_X6_fail ⟨Nat.le_of_ble_eq_true rfl, Nat.le_of_ble_eq_true rfl⟩ t_v0 kX6 (by decide) rfl rfl rfl (Nat.le_of_ble_eq_true rfl) ⟨Nat.zero_le _, Nat.zero_le _⟩ (fun S1 h => ?_)
  exact jRetV C (by decide +kernel : decode cX6_simplePart 112 = .ok (.return_, 1)) (Nat.le_refl _) (Nat.le_refl _) ⟨rfl, h⟩
set_option maxHeartbeats 4000000 in
set_option maxRecDepth 100000 in
theorem j_X6_simplePart_61 {p : Program} {l : Launch} {e : Env} {s : State} {m : MethodId} {args : Array Value} {below : List Frame} {meth : Method} {c : Code} {b : Nat} {D : va_G} {cy : Nat → ClassId} {G : Gm} {v0 : Nat} {v1 : Int32} {v2 : Int32} {S : St} {Q : St → Prop} (C : CX p s m args meth c b D cy cX6_simplePart RX6 4 none) (hE : s.heap.size + 0 ≤ b + G.2.2) (t_v0 : ok G 5 v0) (h : f_X6_simplePart_61 G v0 v1 v2 Q S) : J p l e rm_X6_simplePart s m args below meth c b D cy 4 (zV b D cy below args s G Q) 0 0 G S 61 [(0, .ref (b + v0)), (1, .int v1), (2, .int v2)] [] := by
  unfold f_X6_simplePart_61 at h
  refine jB C [(.aload_n 0, 1, 0), (.dup, 1, 0)] 63 [(0, .ref (b + v0)), (1, .int v1), (2, .int v2)] [.ref (b + v0), .ref (b + v0)] (by decide +kernel) rfl rfl ?_
  refine jGetI C 66 (by decide +kernel : decode cX6_simplePart 63 = .ok (.getfield 48, 3)) rfl t_v0 kX6 7 (by decide) rfl rfl (by decide) wd_282 ?_
  refine jB C [(.iconst 1, 1, 1), (.iadd, 1, 0)] 68 [(0, .ref (b + v0)), (1, .int v1), (2, .int v2)] [.int ((S.1 v0 7) + 1), .ref (b + v0)] (by decide +kernel) rfl rfl ?_
  refine jPutI C 71 (by decide +kernel : decode cX6_simplePart 68 = .ok (.putfield 48, 3)) rfl hE t_v0 kX6 7 (by decide) rfl rfl (by decide) rfl wd_282 rfl rfl rfl ?_
  refine jTopS (fun S1 e_S1 => ?_)
  have h := h S1 e_S1
  refine jB C [(.aload_n 0, 1, 0), (.dup, 1, 0)] 73 [(0, .ref (b + v0)), (1, .int v1), (2, .int v2)] [.ref (b + v0), .ref (b + v0)] (by decide +kernel) rfl rfl ?_
  refine jGetI C 76 (by decide +kernel : decode cX6_simplePart 73 = .ok (.getfield 51, 3)) rfl t_v0 kX6 6 (by decide) rfl rfl (by decide) wd_281 ?_
  refine jB C [(.iconst 1, 1, 1), (.iadd, 1, 0)] 78 [(0, .ref (b + v0)), (1, .int v1), (2, .int v2)] [.int ((S1.1 v0 6) + 1), .ref (b + v0)] (by decide +kernel) rfl rfl ?_
  refine jPutI C 81 (by decide +kernel : decode cX6_simplePart 78 = .ok (.putfield 51, 3)) rfl hE t_v0 kX6 6 (by decide) rfl rfl (by decide) rfl wd_281 rfl rfl rfl ?_
  refine jTopS (fun S2 e_S2 => ?_)
  have h := h S2 e_S2
  refine jB C [(.aload_n 0, 1, 0)] 82 [(0, .ref (b + v0)), (1, .int v1), (2, .int v2)] [.ref (b + v0)] (by decide +kernel) rfl rfl ?_
  refine jGetI C 85 (by decide +kernel : decode cX6_simplePart 82 = .ok (.getfield 44, 3)) rfl t_v0 kX6 8 (by decide) rfl rfl (by decide) wd_283 ?_
  refine jIf_ne C 88 127 (by decide +kernel : decode cX6_simplePart 85 = .ok (.ifCond .ne 42, 3)) rfl rfl (fun c3 => ?_) (fun c3 => ?_)
  · have h := it2 h c3
    refine jSub [0, 1, 2] rfl ?_
    exact j_X6_simplePart_127 C hE t_v0 h
  · have h := it1 h c3
    refine jB C [(.iload_n 2, 1, 0), (.iconst 4, 1, 4)] 90 [(0, .ref (b + v0)), (1, .int v1), (2, .int v2)] [.int 4, .int v2] (by decide +kernel) rfl rfl ?_
    refine jIcmp_lt C 93 127 (by decide +kernel : decode cX6_simplePart 90 = .ok (.if_icmp .lt 37, 3)) rfl rfl (fun c4 => ?_) (fun c4 => ?_)
    · have h := it1 h c4
      refine jSub [0, 1, 2] rfl ?_
      exact j_X6_simplePart_127 C hE t_v0 h
    · have h := it2 h c4
      refine jB C [(.aload_n 0, 1, 0)] 94 [(0, .ref (b + v0)), (1, .int v1), (2, .int v2)] [.ref (b + v0)] (by decide +kernel) rfl rfl ?_
      refine jcV_I C 97 (rest := []) (ok_X6_numberHere t_v0 h) (by decide +kernel : decode cX6_simplePart 94 = .ok (.invokevirtual 128, 3)) rfl wd_708 wd_710 wp_50 wd_9 wd_711 ⟨rfl, rfl⟩ hd_X6_numberHere ⟨Nat.le_of_ble_eq_true rfl, Nat.le_of_ble_eq_true rfl⟩ t_v0 kX6 (by decide) rfl rfl rfl (Nat.le_of_ble_eq_true rfl) ⟨Nat.zero_le _, Nat.zero_le _⟩ (fun r6 S5 h => ?_)
      refine jB C [(.istore_n 3, 1, 0), (.iload_n 3, 1, 0)] 99 [(3, .int r6), (0, .ref (b + v0)), (1, .int v1), (2, .int v2)] [.int r6] (by decide +kernel) rfl rfl ?_
      refine jIf_lt C 102 108 (by decide +kernel : decode cX6_simplePart 99 = .ok (.ifCond .lt 9, 3)) rfl rfl (fun c7 => ?_) (fun c7 => ?_)
      · have h := it1 h c7
        refine jSub [1] rfl ?_
        exact j_X6_simplePart_108 C hE t_v0 h
      · have h := it2 h c7
        refine jB C [(.iload_n 3, 1, 0), (.bipush 6, 2, 6)] 105 [(3, .int r6), (0, .ref (b + v0)), (1, .int v1), (2, .int v2)] [.int 6, .int r6] (by decide +kernel) rfl rfl ?_
        refine jIcmp_lt C 108 113 (by decide +kernel : decode cX6_simplePart 105 = .ok (.if_icmp .lt 8, 3)) rfl rfl (fun c8 => ?_) (fun c8 => ?_)
        · have h := it1 h c8
          refine jB C [(.aload_n 0, 1, 0), (.dup, 1, 0)] 115 [(3, .int r6), (0, .ref (b + v0)), (1, .int v1), (2, .int v2)] [.ref (b + v0), .ref (b + v0)] (by decide +kernel) rfl rfl ?_
          refine jGetI C 118 (by decide +kernel : decode cX6_simplePart 115 = .ok (.getfield 51, 3)) rfl t_v0 kX6 6 (by decide) rfl rfl (by decide) wd_281 ?_
          refine jB C [(.iconst 1, 1, 1), (.iadd, 1, 0)] 120 [(3, .int r6), (0, .ref (b + v0)), (1, .int v1), (2, .int v2)] [.int ((S5.1 v0 6) + 1), .ref (b + v0)] (by decide +kernel) rfl rfl ?_
          refine jPutI C 123 (by decide +kernel : decode cX6_simplePart 120 = .ok (.putfield 51, 3)) rfl hE t_v0 kX6 6 (by decide) rfl rfl (by decide) rfl wd_281 rfl rfl rfl ?_
          refine jTopS (fun S9 e_S9 => ?_)
          have h := h S9 e_S9
          refine jB C [(.iload_n 2, 1, 0), (.iload_n 3, 1, 0), (.iadd, 1, 0)] 126 [(3, .int r6), (0, .ref (b + v0)), (1, .int v1), (2, .int v2)] [.int (v2 + r6)] (by decide +kernel) rfl rfl ?_
          refine jTopI (fun x10 e_x10 => ?_)
          have h := h x10 e_x10
          refine jB C [(.istore_n 2, 1, 0)] 127 [(2, .int x10), (3, .int r6), (0, .ref (b + v0)), (1, .int v1)] [] (by decide +kernel) rfl rfl ?_
          refine jSub [2, 3, 0] rfl ?_
          exact j_X6_simplePart_127 C hE t_v0 h
        · have h := it2 h c8
          refine jSub [1] rfl ?_
          exact j_X6_simplePart_108 C hE t_v0 h
set_option maxHeartbeats 4000000 in
set_option maxRecDepth 100000 in
theorem j_X6_simplePart_56 {p : Program} {l : Launch} {e : Env} {s : State} {m : MethodId} {args : Array Value} {below : List Frame} {meth : Method} {c : Code} {b : Nat} {D : va_G} {cy : Nat → ClassId} {G : Gm} {v0 : Nat} {S : St} {Q : St → Prop} (C : CX p s m args meth c b D cy cX6_simplePart RX6 4 none) (hE : s.heap.size + 0 ≤ b + G.2.2) (t_v0 : ok G 5 v0) (h : f_X6_simplePart_56 G v0 Q S) : J p l e rm_X6_simplePart s m args below meth c b D cy 4 (zV b D cy below args s G Q) 0 0 G S 56 [(0, .ref (b + v0))] [] := by
  unfold f_X6_simplePart_56 at h
  refine jB C [(.aload_n 0, 1, 0)] 57 [(0, .ref (b + v0))] [.ref (b + v0)] (by decide +kernel) rfl rfl ?_
  refine jcV_V C 60 (rest := []) (ok_X6_fail t_v0 h) (by decide +kernel : decode cX6_simplePart 57 = .ok (.invokevirtual 67, 3)) rfl wd_680 wd_682 wp_43 wd_9 wd_683 ⟨rfl, rfl⟩ hd_X6_fail ⟨Nat.le_of_ble_eq_true rfl, Nat.le_of_ble_eq_true rfl⟩ t_v0 kX6 (by decide) rfl rfl rfl (Nat.le_of_ble_eq_true rfl) ⟨Nat.zero_le _, Nat.zero_le _⟩ (fun S1 h => ?_)
  exact jRetV C (by decide +kernel : decode cX6_simplePart 60 = .ok (.return_, 1)) (Nat.le_refl _) (Nat.le_refl _) ⟨rfl, h⟩
set_option maxHeartbeats 4000000 in
set_option maxRecDepth 100000 in
theorem j_X6_simplePart_29 {p : Program} {l : Launch} {e : Env} {s : State} {m : MethodId} {args : Array Value} {below : List Frame} {meth : Method} {c : Code} {b : Nat} {D : va_G} {cy : Nat → ClassId} {G : Gm} {v0 : Nat} {v1 : Int32} {u0 : Int32} {S : St} {Q : St → Prop} (C : CX p s m args meth c b D cy cX6_simplePart RX6 4 none) (hE : s.heap.size + 0 ≤ b + G.2.2) (t_v0 : ok G 5 v0) (h : f_X6_simplePart_29 G v0 v1 u0 Q S) : J p l e rm_X6_simplePart s m args below meth c b D cy 4 (zV b D cy below args s G Q) 0 0 G S 29 [(0, .ref (b + v0)), (1, .int v1)] [.int u0] := by
  unfold f_X6_simplePart_29 at h
  refine jB C [(.istore_n 2, 1, 0), (.aload_n 0, 1, 0)] 31 [(2, .int u0), (0, .ref (b + v0)), (1, .int v1)] [.ref (b + v0)] (by decide +kernel) rfl rfl ?_
  refine jGetI C 34 (by decide +kernel : decode cX6_simplePart 31 = .ok (.getfield 48, 3)) rfl t_v0 kX6 7 (by decide) rfl rfl (by decide) wd_282 ?_
  refine jB C [(.bipush 50, 2, 50)] 36 [(2, .int u0), (0, .ref (b + v0)), (1, .int v1)] [.int 50, .int (S.1 v0 7)] (by decide +kernel) rfl rfl ?_
  refine jIcmp_ge C 39 56 (by decide +kernel : decode cX6_simplePart 36 = .ok (.if_icmp .ge 20, 3)) rfl rfl (fun c1 => ?_) (fun c1 => ?_)
  · have h := it1 h c1
    refine jSub [1] rfl ?_
    exact j_X6_simplePart_56 C hE t_v0 h
  · have h := it2 h c1
    refine jB C [(.iload_n 1, 1, 0), (.sipush 1000, 3, 1000)] 43 [(2, .int u0), (0, .ref (b + v0)), (1, .int v1)] [.int 1000, .int v1] (by decide +kernel) rfl rfl ?_
    refine jIcmp_gt C 46 56 (by decide +kernel : decode cX6_simplePart 43 = .ok (.if_icmp .gt 13, 3)) rfl rfl (fun c2 => ?_) (fun c2 => ?_)
    · have h := it1 h c2
      refine jSub [1] rfl ?_
      exact j_X6_simplePart_56 C hE t_v0 h
    · have h := it2 h c2
      refine jB C [(.iload_n 1, 1, 0), (.iconst (-1), 1, (-1))] 48 [(2, .int u0), (0, .ref (b + v0)), (1, .int v1)] [.int (-1), .int v1] (by decide +kernel) rfl rfl ?_
      refine jIcmp_ne C 51 61 (by decide +kernel : decode cX6_simplePart 48 = .ok (.if_icmp .ne 13, 3)) rfl rfl (fun c3 => ?_) (fun c3 => ?_)
      · have h := it2 h c3
        refine jSub [1, 2, 0] rfl ?_
        exact j_X6_simplePart_61 C hE t_v0 h
      · have h := it1 h c3
        refine jB C [(.iload_n 2, 1, 0), (.iconst (-1), 1, (-1))] 53 [(2, .int u0), (0, .ref (b + v0)), (1, .int v1)] [.int (-1), .int u0] (by decide +kernel) rfl rfl ?_
        refine jIcmp_ne C 56 61 (by decide +kernel : decode cX6_simplePart 53 = .ok (.if_icmp .ne 8, 3)) rfl rfl (fun c4 => ?_) (fun c4 => ?_)
        · have h := it2 h c4
          refine jSub [1, 2, 0] rfl ?_
          exact j_X6_simplePart_61 C hE t_v0 h
        · have h := it1 h c4
          refine jSub [1] rfl ?_
          exact j_X6_simplePart_56 C hE t_v0 h
set_option maxHeartbeats 4000000 in
set_option maxRecDepth 100000 in
theorem j_X6_simplePart {p : Program} {l : Launch} {e : Env} {s : State} {m : MethodId} {args : Array Value} {below : List Frame} {meth : Method} {c : Code} {b : Nat} {D : va_G} {cy : Nat → ClassId} {G : Gm} {v0 : Nat} {S : St} {Q : St → Prop} (C : CX p s m args meth c b D cy cX6_simplePart RX6 4 none) (hE : s.heap.size + 0 ≤ b + G.2.2) (t_v0 : ok G 5 v0) (h : f_X6_simplePart G v0 Q S) : J p l e rm_X6_simplePart s m args below meth c b D cy 4 (zV b D cy below args s G Q) 0 0 G S 0 [(0, .ref (b + v0))] [] := by
  unfold f_X6_simplePart at h
  refine jB C [(.aload_n 0, 1, 0)] 1 [(0, .ref (b + v0))] [.ref (b + v0)] (by decide +kernel) rfl rfl ?_
  refine jcV_I C 4 (rest := []) (ok_X6_numberHere t_v0 h) (by decide +kernel : decode cX6_simplePart 1 = .ok (.invokevirtual 128, 3)) rfl wd_708 wd_710 wp_50 wd_9 wd_711 ⟨rfl, rfl⟩ hd_X6_numberHere ⟨Nat.le_of_ble_eq_true rfl, Nat.le_of_ble_eq_true rfl⟩ t_v0 kX6 (by decide) rfl rfl rfl (Nat.le_of_ble_eq_true rfl) ⟨Nat.zero_le _, Nat.zero_le _⟩ (fun r2 S1 h => ?_)
  refine jB C [(.istore_n 1, 1, 0), (.aload_n 0, 1, 0)] 6 [(1, .int r2), (0, .ref (b + v0))] [.ref (b + v0)] (by decide +kernel) rfl rfl ?_
  refine jGetI C 9 (by decide +kernel : decode cX6_simplePart 6 = .ok (.getfield 44, 3)) rfl t_v0 kX6 8 (by decide) rfl rfl (by decide) wd_283 ?_
  refine jIf_eq C 12 22 (by decide +kernel : decode cX6_simplePart 9 = .ok (.ifCond .eq 13, 3)) rfl rfl (fun c3 => ?_) (fun c3 => ?_)
  · have h := it1 h c3
    refine jB C [(.aload_n 0, 1, 0)] 23 [(1, .int r2), (0, .ref (b + v0))] [.ref (b + v0)] (by decide +kernel) rfl rfl ?_
    refine jcV_I C 26 (rest := []) (ok_X6_here t_v0 h) (by decide +kernel : decode cX6_simplePart 23 = .ok (.invokevirtual 63, 3)) rfl wd_676 wd_678 wp_42 wd_9 wd_679 ⟨rfl, rfl⟩ hd_X6_here ⟨Nat.le_of_ble_eq_true rfl, Nat.le_of_ble_eq_true rfl⟩ t_v0 kX6 (by decide) rfl rfl rfl (Nat.le_of_ble_eq_true rfl) ⟨Nat.zero_le _, Nat.zero_le _⟩ (fun r5 S4 h => ?_)
    refine jcS_I C 29 (rest := []) (ok_X6_orderWord h) (by decide +kernel : decode cX6_simplePart 26 = .ok (.invokestatic 164, 3)) rfl wd_715 wd_716 wd_9 wd_717 ⟨rfl, rfl⟩ hd_X6_orderWord ⟨Nat.le_of_ble_eq_true rfl, Nat.le_of_ble_eq_true rfl⟩ rfl rfl (Nat.le_of_ble_eq_true rfl) ⟨Nat.zero_le _, Nat.zero_le _⟩ (fun r7 S6 h => ?_)
    refine jSub [1, 0] rfl ?_
    exact j_X6_simplePart_29 C hE t_v0 h
  · have h := it2 h c3
    refine jB C [(.aload_n 0, 1, 0)] 13 [(1, .int r2), (0, .ref (b + v0))] [.ref (b + v0)] (by decide +kernel) rfl rfl ?_
    refine jcV_I C 16 (rest := []) (ok_X6_here t_v0 h) (by decide +kernel : decode cX6_simplePart 13 = .ok (.invokevirtual 63, 3)) rfl wd_676 wd_678 wp_42 wd_9 wd_679 ⟨rfl, rfl⟩ hd_X6_here ⟨Nat.le_of_ble_eq_true rfl, Nat.le_of_ble_eq_true rfl⟩ t_v0 kX6 (by decide) rfl rfl rfl (Nat.le_of_ble_eq_true rfl) ⟨Nat.zero_le _, Nat.zero_le _⟩ (fun r9 S8 h => ?_)
    refine jcS_I C 19 (rest := []) (ok_X6_lawWord h) (by decide +kernel : decode cX6_simplePart 16 = .ok (.invokestatic 161, 3)) rfl wd_712 wd_713 wd_9 wd_714 ⟨rfl, rfl⟩ hd_X6_lawWord ⟨Nat.le_of_ble_eq_true rfl, Nat.le_of_ble_eq_true rfl⟩ rfl rfl (Nat.le_of_ble_eq_true rfl) ⟨Nat.zero_le _, Nat.zero_le _⟩ (fun r11 S10 h => ?_)
    refine jGoto C 29 (by decide +kernel : decode cX6_simplePart 19 = .ok (.goto 10, 3)) rfl ?_
    refine jSub [1, 0] rfl ?_
    exact j_X6_simplePart_29 C hE t_v0 h
theorem ok_X6_simplePart {G : Gm} {v0 : Nat} {S : St} {Q : St → Prop}  (t_v0 : ok G 5 v0) (h : f_X6_simplePart G v0 Q S) : MT yX6_simplePart cX6_simplePart 4 none rm_X6_simplePart 0 0 (fun b => [.ref (b + v0)]) G S (QV (fun G1 S1 => G1 = G ∧ Q S1)) := MT.ofJ (by decide +kernel) (fun b => [(0, .ref (b + v0))]) (fun b => rfl) (fun b => Nat.le_of_ble_eq_true rfl) (fun l b D cy p e s m below meth c C hE hn => j_X6_simplePart C hE t_v0 h)
theorem hd_X6_simplePart : yX6_simplePart.cls ≠ "java/lang/invoke/MethodHandle" ∧ yX6_simplePart.cls ≠ "java/lang/invoke/VarHandle" ∧ (parseMethodDescriptor yX6_simplePart.desc).map (fun d => d.parameters.length) = some 0 := by decide +kernel
abbrev rm_X6_expect : Room := { frames := 1, cells := 0, slots := 0, locals := 20 }
set_option maxHeartbeats 4000000 in
set_option maxRecDepth 100000 in
theorem j_X6_expect {p : Program} {l : Launch} {e : Env} {s : State} {m : MethodId} {args : Array Value} {below : List Frame} {meth : Method} {c : Code} {b : Nat} {D : va_G} {cy : Nat → ClassId} {G : Gm} {v0 : Nat} {v1 : Int32} {S : St} {Q : St → Prop} (C : CX p s m args meth c b D cy cX6_expect RX6 2 none) (hE : s.heap.size + 0 ≤ b + G.2.2) (t_v0 : ok G 5 v0) (h : f_X6_expect G v0 v1 Q S) : J p l e rm_X6_expect s m args below meth c b D cy 2 (zV b D cy below args s G Q) 0 0 G S 0 [(0, .ref (b + v0)), (1, .int v1)] [] := by
  unfold f_X6_expect at h
  refine jB C [(.aload_n 0, 1, 0)] 1 [(0, .ref (b + v0)), (1, .int v1)] [.ref (b + v0)] (by decide +kernel) rfl rfl ?_
  refine jcV_I C 4 (rest := []) (ok_X6_here t_v0 h) (by decide +kernel : decode cX6_expect 1 = .ok (.invokevirtual 63, 3)) rfl wd_676 wd_678 wp_42 wd_9 wd_679 ⟨rfl, rfl⟩ hd_X6_here ⟨Nat.le_of_ble_eq_true rfl, Nat.le_of_ble_eq_true rfl⟩ t_v0 kX6 (by decide) rfl rfl rfl (Nat.le_of_ble_eq_true rfl) ⟨Nat.zero_le _, Nat.zero_le _⟩ (fun r2 S1 h => ?_)
  refine jB C [(.iload_n 1, 1, 0)] 5 [(0, .ref (b + v0)), (1, .int v1)] [.int v1, .int r2] (by decide +kernel) rfl rfl ?_
  refine jIcmp_ne C 8 21 (by decide +kernel : decode cX6_expect 5 = .ok (.if_icmp .ne 16, 3)) rfl rfl (fun c3 => ?_) (fun c3 => ?_)
  · have h := it2 h c3
    refine jB C [(.aload_n 0, 1, 0)] 22 [(0, .ref (b + v0)), (1, .int v1)] [.ref (b + v0)] (by decide +kernel) rfl rfl ?_
    refine jcV_V C 25 (rest := []) (ok_X6_fail t_v0 h) (by decide +kernel : decode cX6_expect 22 = .ok (.invokevirtual 67, 3)) rfl wd_680 wd_682 wp_43 wd_9 wd_683 ⟨rfl, rfl⟩ hd_X6_fail ⟨Nat.le_of_ble_eq_true rfl, Nat.le_of_ble_eq_true rfl⟩ t_v0 kX6 (by decide) rfl rfl rfl (Nat.le_of_ble_eq_true rfl) ⟨Nat.zero_le _, Nat.zero_le _⟩ (fun S4 h => ?_)
    exact jRetV C (by decide +kernel : decode cX6_expect 25 = .ok (.return_, 1)) (Nat.le_refl _) (Nat.le_refl _) ⟨rfl, h⟩
  · have h := it1 h c3
    refine jB C [(.aload_n 0, 1, 0), (.dup, 1, 0)] 10 [(0, .ref (b + v0)), (1, .int v1)] [.ref (b + v0), .ref (b + v0)] (by decide +kernel) rfl rfl ?_
    refine jGetI C 13 (by decide +kernel : decode cX6_expect 10 = .ok (.getfield 51, 3)) rfl t_v0 kX6 6 (by decide) rfl rfl (by decide) wd_281 ?_
    refine jB C [(.iconst 1, 1, 1), (.iadd, 1, 0)] 15 [(0, .ref (b + v0)), (1, .int v1)] [.int ((S1.1 v0 6) + 1), .ref (b + v0)] (by decide +kernel) rfl rfl ?_
    refine jPutI C 18 (by decide +kernel : decode cX6_expect 15 = .ok (.putfield 51, 3)) rfl hE t_v0 kX6 6 (by decide) rfl rfl (by decide) rfl wd_281 rfl rfl rfl ?_
    refine jTopS (fun S5 e_S5 => ?_)
    have h := h S5 e_S5
    refine jGoto C 25 (by decide +kernel : decode cX6_expect 18 = .ok (.goto 7, 3)) rfl ?_
    exact jRetV C (by decide +kernel : decode cX6_expect 25 = .ok (.return_, 1)) (Nat.le_refl _) (Nat.le_refl _) ⟨rfl, h⟩
theorem ok_X6_expect {G : Gm} {v0 : Nat} {v1 : Int32} {S : St} {Q : St → Prop}  (t_v0 : ok G 5 v0) (h : f_X6_expect G v0 v1 Q S) : MT yX6_expect cX6_expect 2 none rm_X6_expect 0 0 (fun b => [.ref (b + v0), .int v1]) G S (QV (fun G1 S1 => G1 = G ∧ Q S1)) := MT.ofJ (by decide +kernel) (fun b => [(0, .ref (b + v0)), (1, .int v1)]) (fun b => rfl) (fun b => Nat.le_of_ble_eq_true rfl) (fun l b D cy p e s m below meth c C hE hn => j_X6_expect C hE t_v0 h)
theorem hd_X6_expect : yX6_expect.cls ≠ "java/lang/invoke/MethodHandle" ∧ yX6_expect.cls ≠ "java/lang/invoke/VarHandle" ∧ (parseMethodDescriptor yX6_expect.desc).map (fun d => d.parameters.length) = some 1 := by decide +kernel
set_option maxHeartbeats 4000000 in
set_option maxRecDepth 100000 in
theorem j_X6_part_r {p : Program} {l : Launch} {e : Env} {s : State} {m : MethodId} {args : Array Value} {below : List Frame} {meth : Method} {c : Code} {b : Nat} {D : va_G} {cy : Nat → ClassId} {G : Gm} {R : Nat → Int32 → (St → Prop) → St → Prop} {v0 : Nat} {v1 : Int32} {S : St} {Q : St → Prop} (n : Nat) (hRec : ∀ {v0 : Nat} {v1 : Int32} {Q : St → Prop} {S : St}, ok G 5 v0 → R v0 v1 Q S → MT yX6_sum cX6_sum 4 none (rm_X6_sum n) 0 0 (fun b => [.ref (b + v0), .int v1]) G S (QV (fun G1 S1 => G1 = G ∧ Q S1))) (C : CX p s m args meth c b D cy cX6_part RX6 2 none) (hE : s.heap.size + 0 ≤ b + G.2.2) (t_v0 : ok G 5 v0) (h : f_X6_part_r G R v0 v1 Q S) : J p l e (rm_X6_part n) s m args below meth c b D cy 2 (zV b D cy below args s G Q) 0 0 G S 0 [(0, .ref (b + v0)), (1, .int v1)] [] := by
  unfold f_X6_part_r at h
  refine jB C [(.aload_n 0, 1, 0)] 1 [(0, .ref (b + v0)), (1, .int v1)] [.ref (b + v0)] (by decide +kernel) rfl rfl ?_
  refine jcV_I C 4 (rest := []) (ok_X6_here t_v0 h) (by decide +kernel : decode cX6_part 1 = .ok (.invokevirtual 63, 3)) rfl wd_676 wd_678 wp_42 wd_9 wd_679 ⟨rfl, rfl⟩ hd_X6_here ⟨by simp only [rm_X6_part, rm_X6_here]; omega, by simp only [rm_X6_part, rm_X6_here]; omega⟩ t_v0 kX6 (by decide) rfl rfl rfl (Nat.le_of_ble_eq_true rfl) ⟨Nat.zero_le _, Nat.zero_le _⟩ (fun r2 S1 h => ?_)
  refine jB C [(.sipush 191, 3, 191)] 7 [(0, .ref (b + v0)), (1, .int v1)] [.int 191, .int r2] (by decide +kernel) rfl rfl ?_
  refine jIcmp_eq C 10 17 (by decide +kernel : decode cX6_part 7 = .ok (.if_icmp .eq 10, 3)) rfl rfl (fun c3 => ?_) (fun c3 => ?_)
  · have h := it1 h c3
    refine jB C [(.iload_n 1, 1, 0), (.bipush 8, 2, 8)] 20 [(0, .ref (b + v0)), (1, .int v1)] [.int 8, .int v1] (by decide +kernel) rfl rfl ?_
    refine jIcmp_lt C 23 30 (by decide +kernel : decode cX6_part 20 = .ok (.if_icmp .lt 10, 3)) rfl rfl (fun c4 => ?_) (fun c4 => ?_)
    · have h := it1 h c4
      refine jB C [(.aload_n 0, 1, 0), (.dup, 1, 0)] 32 [(0, .ref (b + v0)), (1, .int v1)] [.ref (b + v0), .ref (b + v0)] (by decide +kernel) rfl rfl ?_
      refine jGetI C 35 (by decide +kernel : decode cX6_part 32 = .ok (.getfield 51, 3)) rfl t_v0 kX6 6 (by decide) rfl rfl (by decide) wd_281 ?_
      refine jB C [(.iconst 1, 1, 1), (.iadd, 1, 0)] 37 [(0, .ref (b + v0)), (1, .int v1)] [.int ((S1.1 v0 6) + 1), .ref (b + v0)] (by decide +kernel) rfl rfl ?_
      refine jPutI C 40 (by decide +kernel : decode cX6_part 37 = .ok (.putfield 51, 3)) rfl hE t_v0 kX6 6 (by decide) rfl rfl (by decide) rfl wd_281 rfl rfl rfl ?_
      refine jTopS (fun S5 e_S5 => ?_)
      have h := h S5 e_S5
      refine jB C [(.aload_n 0, 1, 0), (.iload_n 1, 1, 0), (.iconst 1, 1, 1), (.iadd, 1, 0)] 44 [(0, .ref (b + v0)), (1, .int v1)] [.int (v1 + 1), .ref (b + v0)] (by decide +kernel) rfl rfl ?_
      refine jcV_V C 47 (rest := []) (hRec t_v0 h) (by decide +kernel : decode cX6_part 44 = .ok (.invokevirtual 113, 3)) rfl wd_692 wd_694 wp_46 wd_9 wd_695 ⟨rfl, rfl⟩ hd_X6_sum ⟨by simp only [rm_X6_part, rm_X6_sum]; omega, by simp only [rm_X6_part, rm_X6_sum]; omega⟩ t_v0 kX6 (by decide) rfl rfl rfl (Nat.le_of_ble_eq_true rfl) ⟨Nat.zero_le _, Nat.zero_le _⟩ (fun S6 h => ?_)
      refine jB C [(.aload_n 0, 1, 0), (.sipush 193, 3, 193)] 51 [(0, .ref (b + v0)), (1, .int v1)] [.int 193, .ref (b + v0)] (by decide +kernel) rfl rfl ?_
      refine jcV_V C 54 (rest := []) (ok_X6_expect t_v0 h) (by decide +kernel : decode cX6_part 51 = .ok (.invokevirtual 125, 3)) rfl wd_722 wd_724 wp_52 wd_9 wd_725 ⟨rfl, rfl⟩ hd_X6_expect ⟨by simp only [rm_X6_part, rm_X6_expect]; omega, by simp only [rm_X6_part, rm_X6_expect]; omega⟩ t_v0 kX6 (by decide) rfl rfl rfl (Nat.le_of_ble_eq_true rfl) ⟨Nat.zero_le _, Nat.zero_le _⟩ (fun S7 h => ?_)
      exact jRetV C (by decide +kernel : decode cX6_part 54 = .ok (.return_, 1)) (Nat.le_refl _) (Nat.le_refl _) ⟨rfl, h⟩
    · have h := it2 h c4
      refine jB C [(.aload_n 0, 1, 0)] 24 [(0, .ref (b + v0)), (1, .int v1)] [.ref (b + v0)] (by decide +kernel) rfl rfl ?_
      refine jcV_V C 27 (rest := []) (ok_X6_fail t_v0 h) (by decide +kernel : decode cX6_part 24 = .ok (.invokevirtual 67, 3)) rfl wd_680 wd_682 wp_43 wd_9 wd_683 ⟨rfl, rfl⟩ hd_X6_fail ⟨by simp only [rm_X6_part, rm_X6_fail]; omega, by simp only [rm_X6_part, rm_X6_fail]; omega⟩ t_v0 kX6 (by decide) rfl rfl rfl (Nat.le_of_ble_eq_true rfl) ⟨Nat.zero_le _, Nat.zero_le _⟩ (fun S8 h => ?_)
      refine jGoto C 54 (by decide +kernel : decode cX6_part 27 = .ok (.goto 27, 3)) rfl ?_
      exact jRetV C (by decide +kernel : decode cX6_part 54 = .ok (.return_, 1)) (Nat.le_refl _) (Nat.le_refl _) ⟨rfl, h⟩
  · have h := it2 h c3
    refine jB C [(.aload_n 0, 1, 0)] 11 [(0, .ref (b + v0)), (1, .int v1)] [.ref (b + v0)] (by decide +kernel) rfl rfl ?_
    refine jcV_V C 14 (rest := []) (ok_X6_simplePart t_v0 h) (by decide +kernel : decode cX6_part 11 = .ok (.invokevirtual 158, 3)) rfl wd_704 wd_706 wp_49 wd_9 wd_707 ⟨rfl, rfl⟩ hd_X6_simplePart ⟨by simp only [rm_X6_part, rm_X6_simplePart]; omega, by simp only [rm_X6_part, rm_X6_simplePart]; omega⟩ t_v0 kX6 (by decide) rfl rfl rfl (Nat.le_of_ble_eq_true rfl) ⟨Nat.zero_le _, Nat.zero_le _⟩ (fun S9 h => ?_)
    refine jGoto C 54 (by decide +kernel : decode cX6_part 14 = .ok (.goto 40, 3)) rfl ?_
    exact jRetV C (by decide +kernel : decode cX6_part 54 = .ok (.return_, 1)) (Nat.le_refl _) (Nat.le_refl _) ⟨rfl, h⟩
theorem ok_X6_part_r {G : Gm} {v0 : Nat} {v1 : Int32} {S : St} {Q : St → Prop}  {R : Nat → Int32 → (St → Prop) → St → Prop} (n : Nat) (hRec : ∀ {v0 : Nat} {v1 : Int32} {Q : St → Prop} {S : St}, ok G 5 v0 → R v0 v1 Q S → MT yX6_sum cX6_sum 4 none (rm_X6_sum n) 0 0 (fun b => [.ref (b + v0), .int v1]) G S (QV (fun G1 S1 => G1 = G ∧ Q S1)))  (t_v0 : ok G 5 v0) (h : f_X6_part_r G R v0 v1 Q S) : MT yX6_part cX6_part 2 none (rm_X6_part n) 0 0 (fun b => [.ref (b + v0), .int v1]) G S (QV (fun G1 S1 => G1 = G ∧ Q S1)) := MT.ofJ (by decide +kernel) (fun b => [(0, .ref (b + v0)), (1, .int v1)]) (fun b => rfl) (fun b => Nat.le_of_ble_eq_true rfl) (fun l b D cy p e s m below meth c C hE hn => j_X6_part_r n hRec C hE t_v0 h)
theorem hd_X6_part : yX6_part.cls ≠ "java/lang/invoke/MethodHandle" ∧ yX6_part.cls ≠ "java/lang/invoke/VarHandle" ∧ (parseMethodDescriptor yX6_part.desc).map (fun d => d.parameters.length) = some 1 := by decide +kernel
abbrev rm_X6_stepOf : Room := { frames := 0, cells := 0, slots := 0, locals := 0 }
set_option maxHeartbeats 4000000 in
set_option maxRecDepth 100000 in
theorem j_X6_stepOf {p : Program} {l : Launch} {e : Env} {s : State} {m : MethodId} {args : Array Value} {below : List Frame} {meth : Method} {c : Code} {b : Nat} {D : va_G} {cy : Nat → ClassId} {G : Gm} {v0 : Int32} {S : St} {Q : Int32 → St → Prop} (C : CX p s m args meth c b D cy cX6_stepOf RX6 1 (some .int)) (hE : s.heap.size + 0 ≤ b + G.2.2) (h : f_X6_stepOf G v0 Q S) : J p l e rm_X6_stepOf s m args below meth c b D cy 1 (zI b D cy below args s G Q) 0 0 G S 0 [(0, .int v0)] [] := by
  unfold f_X6_stepOf at h
  refine jB C [(.iload_n 0, 1, 0), (.bipush 100, 2, 100), (.isub, 1, 0)] 4 [(0, .int v0)] [.int (v0 - 100)] (by decide +kernel) rfl rfl ?_
  by_cases c1_0 : (v0 - 100) = 37
  · have h := it1 h c1_0
    refine jTabIn C 132 37 (by decide +kernel : decode cX6_stepOf 4 = .ok (.tableswitch 140 37 62 #[128, 140, 140, 140, 140, 124, 120, 140, 122, 140, 126, 140, 140, 140, 140, 140, 140, 140, 140, 140, 140, 140, 140, 131, 137, 134], 120)) c1_0 ⟨rfl, rfl, rfl, rfl⟩ ?_
    refine jB C [(.bipush 6, 2, 6)] 134 [(0, .int v0)] [.int 6] (by decide +kernel) rfl rfl ?_
    exact jRetI C (by decide +kernel : decode cX6_stepOf 134 = .ok (.ireturn, 1)) (Nat.le_refl _) (Nat.le_refl _) ⟨rfl, h⟩
  · have h := it2 h c1_0
    by_cases c1_1 : (v0 - 100) = 38
    · have h := it1 h c1_1
      refine jTabIn C 144 38 (by decide +kernel : decode cX6_stepOf 4 = .ok (.tableswitch 140 37 62 #[128, 140, 140, 140, 140, 124, 120, 140, 122, 140, 126, 140, 140, 140, 140, 140, 140, 140, 140, 140, 140, 140, 140, 131, 137, 134], 120)) c1_1 ⟨rfl, rfl, rfl, rfl⟩ ?_
      refine jB C [(.iconst (-1), 1, (-1))] 145 [(0, .int v0)] [.int (-1)] (by decide +kernel) rfl rfl ?_
      exact jRetI C (by decide +kernel : decode cX6_stepOf 145 = .ok (.ireturn, 1)) (Nat.le_refl _) (Nat.le_refl _) ⟨rfl, h⟩
    · have h := it2 h c1_1
      by_cases c1_2 : (v0 - 100) = 39
      · have h := it1 h c1_2
        refine jTabIn C 144 39 (by decide +kernel : decode cX6_stepOf 4 = .ok (.tableswitch 140 37 62 #[128, 140, 140, 140, 140, 124, 120, 140, 122, 140, 126, 140, 140, 140, 140, 140, 140, 140, 140, 140, 140, 140, 140, 131, 137, 134], 120)) c1_2 ⟨rfl, rfl, rfl, rfl⟩ ?_
        refine jB C [(.iconst (-1), 1, (-1))] 145 [(0, .int v0)] [.int (-1)] (by decide +kernel) rfl rfl ?_
        exact jRetI C (by decide +kernel : decode cX6_stepOf 145 = .ok (.ireturn, 1)) (Nat.le_refl _) (Nat.le_refl _) ⟨rfl, h⟩
      · have h := it2 h c1_2
        by_cases c1_3 : (v0 - 100) = 40
        · have h := it1 h c1_3
          refine jTabIn C 144 40 (by decide +kernel : decode cX6_stepOf 4 = .ok (.tableswitch 140 37 62 #[128, 140, 140, 140, 140, 124, 120, 140, 122, 140, 126, 140, 140, 140, 140, 140, 140, 140, 140, 140, 140, 140, 140, 131, 137, 134], 120)) c1_3 ⟨rfl, rfl, rfl, rfl⟩ ?_
          refine jB C [(.iconst (-1), 1, (-1))] 145 [(0, .int v0)] [.int (-1)] (by decide +kernel) rfl rfl ?_
          exact jRetI C (by decide +kernel : decode cX6_stepOf 145 = .ok (.ireturn, 1)) (Nat.le_refl _) (Nat.le_refl _) ⟨rfl, h⟩
        · have h := it2 h c1_3
          by_cases c1_4 : (v0 - 100) = 41
          · have h := it1 h c1_4
            refine jTabIn C 144 41 (by decide +kernel : decode cX6_stepOf 4 = .ok (.tableswitch 140 37 62 #[128, 140, 140, 140, 140, 124, 120, 140, 122, 140, 126, 140, 140, 140, 140, 140, 140, 140, 140, 140, 140, 140, 140, 131, 137, 134], 120)) c1_4 ⟨rfl, rfl, rfl, rfl⟩ ?_
            refine jB C [(.iconst (-1), 1, (-1))] 145 [(0, .int v0)] [.int (-1)] (by decide +kernel) rfl rfl ?_
            exact jRetI C (by decide +kernel : decode cX6_stepOf 145 = .ok (.ireturn, 1)) (Nat.le_refl _) (Nat.le_refl _) ⟨rfl, h⟩
          · have h := it2 h c1_4
            by_cases c1_5 : (v0 - 100) = 42
            · have h := it1 h c1_5
              refine jTabIn C 128 42 (by decide +kernel : decode cX6_stepOf 4 = .ok (.tableswitch 140 37 62 #[128, 140, 140, 140, 140, 124, 120, 140, 122, 140, 126, 140, 140, 140, 140, 140, 140, 140, 140, 140, 140, 140, 140, 131, 137, 134], 120)) c1_5 ⟨rfl, rfl, rfl, rfl⟩ ?_
              refine jB C [(.iconst 4, 1, 4)] 129 [(0, .int v0)] [.int 4] (by decide +kernel) rfl rfl ?_
              exact jRetI C (by decide +kernel : decode cX6_stepOf 129 = .ok (.ireturn, 1)) (Nat.le_refl _) (Nat.le_refl _) ⟨rfl, h⟩
            · have h := it2 h c1_5
              by_cases c1_6 : (v0 - 100) = 43
              · have h := it1 h c1_6
                refine jTabIn C 124 43 (by decide +kernel : decode cX6_stepOf 4 = .ok (.tableswitch 140 37 62 #[128, 140, 140, 140, 140, 124, 120, 140, 122, 140, 126, 140, 140, 140, 140, 140, 140, 140, 140, 140, 140, 140, 140, 131, 137, 134], 120)) c1_6 ⟨rfl, rfl, rfl, rfl⟩ ?_
                refine jB C [(.iconst 2, 1, 2)] 125 [(0, .int v0)] [.int 2] (by decide +kernel) rfl rfl ?_
                exact jRetI C (by decide +kernel : decode cX6_stepOf 125 = .ok (.ireturn, 1)) (Nat.le_refl _) (Nat.le_refl _) ⟨rfl, h⟩
              · have h := it2 h c1_6
                by_cases c1_7 : (v0 - 100) = 44
                · have h := it1 h c1_7
                  refine jTabIn C 144 44 (by decide +kernel : decode cX6_stepOf 4 = .ok (.tableswitch 140 37 62 #[128, 140, 140, 140, 140, 124, 120, 140, 122, 140, 126, 140, 140, 140, 140, 140, 140, 140, 140, 140, 140, 140, 140, 131, 137, 134], 120)) c1_7 ⟨rfl, rfl, rfl, rfl⟩ ?_
                  refine jB C [(.iconst (-1), 1, (-1))] 145 [(0, .int v0)] [.int (-1)] (by decide +kernel) rfl rfl ?_
                  exact jRetI C (by decide +kernel : decode cX6_stepOf 145 = .ok (.ireturn, 1)) (Nat.le_refl _) (Nat.le_refl _) ⟨rfl, h⟩
                · have h := it2 h c1_7
                  by_cases c1_8 : (v0 - 100) = 45
                  · have h := it1 h c1_8
                    refine jTabIn C 126 45 (by decide +kernel : decode cX6_stepOf 4 = .ok (.tableswitch 140 37 62 #[128, 140, 140, 140, 140, 124, 120, 140, 122, 140, 126, 140, 140, 140, 140, 140, 140, 140, 140, 140, 140, 140, 140, 131, 137, 134], 120)) c1_8 ⟨rfl, rfl, rfl, rfl⟩ ?_
                    refine jB C [(.iconst 3, 1, 3)] 127 [(0, .int v0)] [.int 3] (by decide +kernel) rfl rfl ?_
                    exact jRetI C (by decide +kernel : decode cX6_stepOf 127 = .ok (.ireturn, 1)) (Nat.le_refl _) (Nat.le_refl _) ⟨rfl, h⟩
                  · have h := it2 h c1_8
                    by_cases c1_9 : (v0 - 100) = 46
                    · have h := it1 h c1_9
                      refine jTabIn C 144 46 (by decide +kernel : decode cX6_stepOf 4 = .ok (.tableswitch 140 37 62 #[128, 140, 140, 140, 140, 124, 120, 140, 122, 140, 126, 140, 140, 140, 140, 140, 140, 140, 140, 140, 140, 140, 140, 131, 137, 134], 120)) c1_9 ⟨rfl, rfl, rfl, rfl⟩ ?_
                      refine jB C [(.iconst (-1), 1, (-1))] 145 [(0, .int v0)] [.int (-1)] (by decide +kernel) rfl rfl ?_
                      exact jRetI C (by decide +kernel : decode cX6_stepOf 145 = .ok (.ireturn, 1)) (Nat.le_refl _) (Nat.le_refl _) ⟨rfl, h⟩
                    · have h := it2 h c1_9
                      by_cases c1_10 : (v0 - 100) = 47
                      · have h := it1 h c1_10
                        refine jTabIn C 130 47 (by decide +kernel : decode cX6_stepOf 4 = .ok (.tableswitch 140 37 62 #[128, 140, 140, 140, 140, 124, 120, 140, 122, 140, 126, 140, 140, 140, 140, 140, 140, 140, 140, 140, 140, 140, 140, 131, 137, 134], 120)) c1_10 ⟨rfl, rfl, rfl, rfl⟩ ?_
                        refine jB C [(.iconst 5, 1, 5)] 131 [(0, .int v0)] [.int 5] (by decide +kernel) rfl rfl ?_
                        exact jRetI C (by decide +kernel : decode cX6_stepOf 131 = .ok (.ireturn, 1)) (Nat.le_refl _) (Nat.le_refl _) ⟨rfl, h⟩
                      · have h := it2 h c1_10
                        by_cases c1_11 : (v0 - 100) = 48
                        · have h := it1 h c1_11
                          refine jTabIn C 144 48 (by decide +kernel : decode cX6_stepOf 4 = .ok (.tableswitch 140 37 62 #[128, 140, 140, 140, 140, 124, 120, 140, 122, 140, 126, 140, 140, 140, 140, 140, 140, 140, 140, 140, 140, 140, 140, 131, 137, 134], 120)) c1_11 ⟨rfl, rfl, rfl, rfl⟩ ?_
                          refine jB C [(.iconst (-1), 1, (-1))] 145 [(0, .int v0)] [.int (-1)] (by decide +kernel) rfl rfl ?_
                          exact jRetI C (by decide +kernel : decode cX6_stepOf 145 = .ok (.ireturn, 1)) (Nat.le_refl _) (Nat.le_refl _) ⟨rfl, h⟩
                        · have h := it2 h c1_11
                          by_cases c1_12 : (v0 - 100) = 49
                          · have h := it1 h c1_12
                            refine jTabIn C 144 49 (by decide +kernel : decode cX6_stepOf 4 = .ok (.tableswitch 140 37 62 #[128, 140, 140, 140, 140, 124, 120, 140, 122, 140, 126, 140, 140, 140, 140, 140, 140, 140, 140, 140, 140, 140, 140, 131, 137, 134], 120)) c1_12 ⟨rfl, rfl, rfl, rfl⟩ ?_
                            refine jB C [(.iconst (-1), 1, (-1))] 145 [(0, .int v0)] [.int (-1)] (by decide +kernel) rfl rfl ?_
                            exact jRetI C (by decide +kernel : decode cX6_stepOf 145 = .ok (.ireturn, 1)) (Nat.le_refl _) (Nat.le_refl _) ⟨rfl, h⟩
                          · have h := it2 h c1_12
                            by_cases c1_13 : (v0 - 100) = 50
                            · have h := it1 h c1_13
                              refine jTabIn C 144 50 (by decide +kernel : decode cX6_stepOf 4 = .ok (.tableswitch 140 37 62 #[128, 140, 140, 140, 140, 124, 120, 140, 122, 140, 126, 140, 140, 140, 140, 140, 140, 140, 140, 140, 140, 140, 140, 131, 137, 134], 120)) c1_13 ⟨rfl, rfl, rfl, rfl⟩ ?_
                              refine jB C [(.iconst (-1), 1, (-1))] 145 [(0, .int v0)] [.int (-1)] (by decide +kernel) rfl rfl ?_
                              exact jRetI C (by decide +kernel : decode cX6_stepOf 145 = .ok (.ireturn, 1)) (Nat.le_refl _) (Nat.le_refl _) ⟨rfl, h⟩
                            · have h := it2 h c1_13
                              by_cases c1_14 : (v0 - 100) = 51
                              · have h := it1 h c1_14
                                refine jTabIn C 144 51 (by decide +kernel : decode cX6_stepOf 4 = .ok (.tableswitch 140 37 62 #[128, 140, 140, 140, 140, 124, 120, 140, 122, 140, 126, 140, 140, 140, 140, 140, 140, 140, 140, 140, 140, 140, 140, 131, 137, 134], 120)) c1_14 ⟨rfl, rfl, rfl, rfl⟩ ?_
                                refine jB C [(.iconst (-1), 1, (-1))] 145 [(0, .int v0)] [.int (-1)] (by decide +kernel) rfl rfl ?_
                                exact jRetI C (by decide +kernel : decode cX6_stepOf 145 = .ok (.ireturn, 1)) (Nat.le_refl _) (Nat.le_refl _) ⟨rfl, h⟩
                              · have h := it2 h c1_14
                                by_cases c1_15 : (v0 - 100) = 52
                                · have h := it1 h c1_15
                                  refine jTabIn C 144 52 (by decide +kernel : decode cX6_stepOf 4 = .ok (.tableswitch 140 37 62 #[128, 140, 140, 140, 140, 124, 120, 140, 122, 140, 126, 140, 140, 140, 140, 140, 140, 140, 140, 140, 140, 140, 140, 131, 137, 134], 120)) c1_15 ⟨rfl, rfl, rfl, rfl⟩ ?_
                                  refine jB C [(.iconst (-1), 1, (-1))] 145 [(0, .int v0)] [.int (-1)] (by decide +kernel) rfl rfl ?_
                                  exact jRetI C (by decide +kernel : decode cX6_stepOf 145 = .ok (.ireturn, 1)) (Nat.le_refl _) (Nat.le_refl _) ⟨rfl, h⟩
                                · have h := it2 h c1_15
                                  by_cases c1_16 : (v0 - 100) = 53
                                  · have h := it1 h c1_16
                                    refine jTabIn C 144 53 (by decide +kernel : decode cX6_stepOf 4 = .ok (.tableswitch 140 37 62 #[128, 140, 140, 140, 140, 124, 120, 140, 122, 140, 126, 140, 140, 140, 140, 140, 140, 140, 140, 140, 140, 140, 140, 131, 137, 134], 120)) c1_16 ⟨rfl, rfl, rfl, rfl⟩ ?_
                                    refine jB C [(.iconst (-1), 1, (-1))] 145 [(0, .int v0)] [.int (-1)] (by decide +kernel) rfl rfl ?_
                                    exact jRetI C (by decide +kernel : decode cX6_stepOf 145 = .ok (.ireturn, 1)) (Nat.le_refl _) (Nat.le_refl _) ⟨rfl, h⟩
                                  · have h := it2 h c1_16
                                    by_cases c1_17 : (v0 - 100) = 54
                                    · have h := it1 h c1_17
                                      refine jTabIn C 144 54 (by decide +kernel : decode cX6_stepOf 4 = .ok (.tableswitch 140 37 62 #[128, 140, 140, 140, 140, 124, 120, 140, 122, 140, 126, 140, 140, 140, 140, 140, 140, 140, 140, 140, 140, 140, 140, 131, 137, 134], 120)) c1_17 ⟨rfl, rfl, rfl, rfl⟩ ?_
                                      refine jB C [(.iconst (-1), 1, (-1))] 145 [(0, .int v0)] [.int (-1)] (by decide +kernel) rfl rfl ?_
                                      exact jRetI C (by decide +kernel : decode cX6_stepOf 145 = .ok (.ireturn, 1)) (Nat.le_refl _) (Nat.le_refl _) ⟨rfl, h⟩
                                    · have h := it2 h c1_17
                                      by_cases c1_18 : (v0 - 100) = 55
                                      · have h := it1 h c1_18
                                        refine jTabIn C 144 55 (by decide +kernel : decode cX6_stepOf 4 = .ok (.tableswitch 140 37 62 #[128, 140, 140, 140, 140, 124, 120, 140, 122, 140, 126, 140, 140, 140, 140, 140, 140, 140, 140, 140, 140, 140, 140, 131, 137, 134], 120)) c1_18 ⟨rfl, rfl, rfl, rfl⟩ ?_
                                        refine jB C [(.iconst (-1), 1, (-1))] 145 [(0, .int v0)] [.int (-1)] (by decide +kernel) rfl rfl ?_
                                        exact jRetI C (by decide +kernel : decode cX6_stepOf 145 = .ok (.ireturn, 1)) (Nat.le_refl _) (Nat.le_refl _) ⟨rfl, h⟩
                                      · have h := it2 h c1_18
                                        by_cases c1_19 : (v0 - 100) = 56
                                        · have h := it1 h c1_19
                                          refine jTabIn C 144 56 (by decide +kernel : decode cX6_stepOf 4 = .ok (.tableswitch 140 37 62 #[128, 140, 140, 140, 140, 124, 120, 140, 122, 140, 126, 140, 140, 140, 140, 140, 140, 140, 140, 140, 140, 140, 140, 131, 137, 134], 120)) c1_19 ⟨rfl, rfl, rfl, rfl⟩ ?_
                                          refine jB C [(.iconst (-1), 1, (-1))] 145 [(0, .int v0)] [.int (-1)] (by decide +kernel) rfl rfl ?_
                                          exact jRetI C (by decide +kernel : decode cX6_stepOf 145 = .ok (.ireturn, 1)) (Nat.le_refl _) (Nat.le_refl _) ⟨rfl, h⟩
                                        · have h := it2 h c1_19
                                          by_cases c1_20 : (v0 - 100) = 57
                                          · have h := it1 h c1_20
                                            refine jTabIn C 144 57 (by decide +kernel : decode cX6_stepOf 4 = .ok (.tableswitch 140 37 62 #[128, 140, 140, 140, 140, 124, 120, 140, 122, 140, 126, 140, 140, 140, 140, 140, 140, 140, 140, 140, 140, 140, 140, 131, 137, 134], 120)) c1_20 ⟨rfl, rfl, rfl, rfl⟩ ?_
                                            refine jB C [(.iconst (-1), 1, (-1))] 145 [(0, .int v0)] [.int (-1)] (by decide +kernel) rfl rfl ?_
                                            exact jRetI C (by decide +kernel : decode cX6_stepOf 145 = .ok (.ireturn, 1)) (Nat.le_refl _) (Nat.le_refl _) ⟨rfl, h⟩
                                          · have h := it2 h c1_20
                                            by_cases c1_21 : (v0 - 100) = 58
                                            · have h := it1 h c1_21
                                              refine jTabIn C 144 58 (by decide +kernel : decode cX6_stepOf 4 = .ok (.tableswitch 140 37 62 #[128, 140, 140, 140, 140, 124, 120, 140, 122, 140, 126, 140, 140, 140, 140, 140, 140, 140, 140, 140, 140, 140, 140, 131, 137, 134], 120)) c1_21 ⟨rfl, rfl, rfl, rfl⟩ ?_
                                              refine jB C [(.iconst (-1), 1, (-1))] 145 [(0, .int v0)] [.int (-1)] (by decide +kernel) rfl rfl ?_
                                              exact jRetI C (by decide +kernel : decode cX6_stepOf 145 = .ok (.ireturn, 1)) (Nat.le_refl _) (Nat.le_refl _) ⟨rfl, h⟩
                                            · have h := it2 h c1_21
                                              by_cases c1_22 : (v0 - 100) = 59
                                              · have h := it1 h c1_22
                                                refine jTabIn C 144 59 (by decide +kernel : decode cX6_stepOf 4 = .ok (.tableswitch 140 37 62 #[128, 140, 140, 140, 140, 124, 120, 140, 122, 140, 126, 140, 140, 140, 140, 140, 140, 140, 140, 140, 140, 140, 140, 131, 137, 134], 120)) c1_22 ⟨rfl, rfl, rfl, rfl⟩ ?_
                                                refine jB C [(.iconst (-1), 1, (-1))] 145 [(0, .int v0)] [.int (-1)] (by decide +kernel) rfl rfl ?_
                                                exact jRetI C (by decide +kernel : decode cX6_stepOf 145 = .ok (.ireturn, 1)) (Nat.le_refl _) (Nat.le_refl _) ⟨rfl, h⟩
                                              · have h := it2 h c1_22
                                                by_cases c1_23 : (v0 - 100) = 60
                                                · have h := it1 h c1_23
                                                  refine jTabIn C 135 60 (by decide +kernel : decode cX6_stepOf 4 = .ok (.tableswitch 140 37 62 #[128, 140, 140, 140, 140, 124, 120, 140, 122, 140, 126, 140, 140, 140, 140, 140, 140, 140, 140, 140, 140, 140, 140, 131, 137, 134], 120)) c1_23 ⟨rfl, rfl, rfl, rfl⟩ ?_
                                                  refine jB C [(.bipush 7, 2, 7)] 137 [(0, .int v0)] [.int 7] (by decide +kernel) rfl rfl ?_
                                                  exact jRetI C (by decide +kernel : decode cX6_stepOf 137 = .ok (.ireturn, 1)) (Nat.le_refl _) (Nat.le_refl _) ⟨rfl, h⟩
                                                · have h := it2 h c1_23
                                                  by_cases c1_24 : (v0 - 100) = 61
                                                  · have h := it1 h c1_24
                                                    refine jTabIn C 141 61 (by decide +kernel : decode cX6_stepOf 4 = .ok (.tableswitch 140 37 62 #[128, 140, 140, 140, 140, 124, 120, 140, 122, 140, 126, 140, 140, 140, 140, 140, 140, 140, 140, 140, 140, 140, 140, 131, 137, 134], 120)) c1_24 ⟨rfl, rfl, rfl, rfl⟩ ?_
                                                    refine jB C [(.bipush 9, 2, 9)] 143 [(0, .int v0)] [.int 9] (by decide +kernel) rfl rfl ?_
                                                    exact jRetI C (by decide +kernel : decode cX6_stepOf 143 = .ok (.ireturn, 1)) (Nat.le_refl _) (Nat.le_refl _) ⟨rfl, h⟩
                                                  · have h := it2 h c1_24
                                                    by_cases c1_25 : (v0 - 100) = 62
                                                    · have h := it1 h c1_25
                                                      refine jTabIn C 138 62 (by decide +kernel : decode cX6_stepOf 4 = .ok (.tableswitch 140 37 62 #[128, 140, 140, 140, 140, 124, 120, 140, 122, 140, 126, 140, 140, 140, 140, 140, 140, 140, 140, 140, 140, 140, 140, 131, 137, 134], 120)) c1_25 ⟨rfl, rfl, rfl, rfl⟩ ?_
                                                      refine jB C [(.bipush 8, 2, 8)] 140 [(0, .int v0)] [.int 8] (by decide +kernel) rfl rfl ?_
                                                      exact jRetI C (by decide +kernel : decode cX6_stepOf 140 = .ok (.ireturn, 1)) (Nat.le_refl _) (Nat.le_refl _) ⟨rfl, h⟩
                                                    · have h := it2 h c1_25
                                                      refine jTabOut C 144 (by decide +kernel : decode cX6_stepOf 4 = .ok (.tableswitch 140 37 62 #[128, 140, 140, 140, 140, 124, 120, 140, 122, 140, 126, 140, 140, 140, 140, 140, 140, 140, 140, 140, 140, 140, 140, 131, 137, 134], 120)) rfl (by have := lv_neT c1_0 (a := 37) rfl; have := lv_neT c1_1 (a := 38) rfl; have := lv_neT c1_2 (a := 39) rfl; have := lv_neT c1_3 (a := 40) rfl; have := lv_neT c1_4 (a := 41) rfl; have := lv_neT c1_5 (a := 42) rfl; have := lv_neT c1_6 (a := 43) rfl; have := lv_neT c1_7 (a := 44) rfl; have := lv_neT c1_8 (a := 45) rfl; have := lv_neT c1_9 (a := 46) rfl; have := lv_neT c1_10 (a := 47) rfl; have := lv_neT c1_11 (a := 48) rfl; have := lv_neT c1_12 (a := 49) rfl; have := lv_neT c1_13 (a := 50) rfl; have := lv_neT c1_14 (a := 51) rfl; have := lv_neT c1_15 (a := 52) rfl; have := lv_neT c1_16 (a := 53) rfl; have := lv_neT c1_17 (a := 54) rfl; have := lv_neT c1_18 (a := 55) rfl; have := lv_neT c1_19 (a := 56) rfl; have := lv_neT c1_20 (a := 57) rfl; have := lv_neT c1_21 (a := 58) rfl; have := lv_neT c1_22 (a := 59) rfl; have := lv_neT c1_23 (a := 60) rfl; have := lv_neT c1_24 (a := 61) rfl; have := lv_neT c1_25 (a := 62) rfl; omega) ?_
                                                      refine jB C [(.iconst (-1), 1, (-1))] 145 [(0, .int v0)] [.int (-1)] (by decide +kernel) rfl rfl ?_
                                                      exact jRetI C (by decide +kernel : decode cX6_stepOf 145 = .ok (.ireturn, 1)) (Nat.le_refl _) (Nat.le_refl _) ⟨rfl, h⟩
theorem ok_X6_stepOf {G : Gm} {v0 : Int32} {S : St} {Q : Int32 → St → Prop}  (h : f_X6_stepOf G v0 Q S) : MT yX6_stepOf cX6_stepOf 1 (some .int) rm_X6_stepOf 0 0 (fun b => [.int v0]) G S (QI (fun r G1 S1 => G1 = G ∧ Q r S1)) := MT.ofJ (by decide +kernel) (fun b => [(0, .int v0)]) (fun b => rfl) (fun b => Nat.le_of_ble_eq_true rfl) (fun l b D cy p e s m below meth c C hE hn => j_X6_stepOf C hE h)
theorem hd_X6_stepOf : yX6_stepOf.cls ≠ "java/lang/invoke/MethodHandle" ∧ yX6_stepOf.cls ≠ "java/lang/invoke/VarHandle" ∧ (parseMethodDescriptor yX6_stepOf.desc).map (fun d => d.parameters.length) = some 1 := by decide +kernel
set_option maxHeartbeats 4000000 in
set_option maxRecDepth 100000 in
theorem j_X6_term_r_39 {p : Program} {l : Launch} {e : Env} {s : State} {m : MethodId} {args : Array Value} {below : List Frame} {meth : Method} {c : Code} {b : Nat} {D : va_G} {cy : Nat → ClassId} {G : Gm} {R : Nat → Int32 → (St → Prop) → St → Prop} {k7 : Int32 → St → Prop} {v0 : Nat} {v1 : Int32} {v2 : Int32} {v3 : Int32} {S : St} {Q : St → Prop} (n : Nat) (hRec : ∀ {v0 : Nat} {v1 : Int32} {Q : St → Prop} {S : St}, ok G 5 v0 → R v0 v1 Q S → MT yX6_sum cX6_sum 4 none (rm_X6_sum n) 0 0 (fun b => [.ref (b + v0), .int v1]) G S (QV (fun G1 S1 => G1 = G ∧ Q S1))) (C : CX p s m args meth c b D cy cX6_term RX6 4 none) (hE : s.heap.size + 0 ≤ b + G.2.2) (t_v0 : ok G 5 v0) (hk7 : ∀ v2' S, k7 v2' S → J p l e (rm_X6_term n) s m args below meth c b D cy 4 (zV b D cy below args s G Q) 0 0 G S 7 [(0, .ref (b + v0)), (1, .int v1), (2, .int (v2'))] []) (h : f_X6_term_r_39 G R k7 v0 v1 v2 v3 Q S) : J p l e (rm_X6_term n) s m args below meth c b D cy 4 (zV b D cy below args s G Q) 0 0 G S 39 [(0, .ref (b + v0)), (1, .int v1), (2, .int v2), (3, .int v3)] [] := by
  unfold f_X6_term_r_39 at h
  refine jB C [(.aload_n 0, 1, 0), (.dup, 1, 0)] 41 [(0, .ref (b + v0)), (1, .int v1), (2, .int v2), (3, .int v3)] [.ref (b + v0), .ref (b + v0)] (by decide +kernel) rfl rfl ?_
  refine jGetI C 44 (by decide +kernel : decode cX6_term 41 = .ok (.getfield 51, 3)) rfl t_v0 kX6 6 (by decide) rfl rfl (by decide) wd_281 ?_
  refine jB C [(.iconst 1, 1, 1), (.iadd, 1, 0)] 46 [(0, .ref (b + v0)), (1, .int v1), (2, .int v2), (3, .int v3)] [.int ((S.1 v0 6) + 1), .ref (b + v0)] (by decide +kernel) rfl rfl ?_
  refine jPutI C 49 (by decide +kernel : decode cX6_term 46 = .ok (.putfield 51, 3)) rfl hE t_v0 kX6 6 (by decide) rfl rfl (by decide) rfl wd_281 rfl rfl rfl ?_
  refine jTopS (fun S1 e_S1 => ?_)
  have h := h S1 e_S1
  refine jB C [(.aload_n 0, 1, 0), (.iload_n 1, 1, 0)] 51 [(0, .ref (b + v0)), (1, .int v1), (2, .int v2), (3, .int v3)] [.int v1, .ref (b + v0)] (by decide +kernel) rfl rfl ?_
  refine jcV_V C 54 (rest := []) (ok_X6_part_r n hRec t_v0 h) (by decide +kernel : decode cX6_term 51 = .ok (.invokevirtual 155, 3)) rfl wd_700 wd_702 wp_48 wd_9 wd_703 ⟨rfl, rfl⟩ hd_X6_part ⟨by simp only [rm_X6_term, rm_X6_part]; omega, by simp only [rm_X6_term, rm_X6_part]; omega⟩ t_v0 kX6 (by decide) rfl rfl rfl (Nat.le_of_ble_eq_true rfl) ⟨Nat.zero_le _, Nat.zero_le _⟩ (fun S2 h => ?_)
  refine jB C [(.aload_n 0, 1, 0)] 55 [(0, .ref (b + v0)), (1, .int v1), (2, .int v2), (3, .int v3)] [.ref (b + v0)] (by decide +kernel) rfl rfl ?_
  obtain ⟨a3, e_a3, h⟩ := h
  refine jGetR C 58 (by decide +kernel : decode cX6_term 55 = .ok (.getfield 33, 3)) rfl t_v0 kX6 10 (by decide) rfl rfl (by decide) wd_286 e_a3 rfl (fun t_a3 => ?_)
  refine jB C [(.iload_n 3, 1, 0), (.iconst 0, 1, 0)] 60 [(0, .ref (b + v0)), (1, .int v1), (2, .int v2), (3, .int v3)] [.int 0, .int v3, .ref (b + a3)] (by decide +kernel) rfl rfl ?_
  refine jcVN_I C 63 (rest := []) (ok_X8_put t_a3 h) (by decide +kernel : decode cX6_term 60 = .ok (.invokevirtual 137, 3)) rfl wn_718 wd_720 wp_51 wd_10 wd_721 ⟨rfl, rfl⟩ hd_X8_put ⟨by simp only [rm_X6_term, rm_X8_put]; omega, by simp only [rm_X6_term, rm_X8_put]; omega⟩ t_a3 kX8 (by decide) rfl rfl rfl (Nat.le_of_ble_eq_true rfl) ⟨Nat.zero_le _, Nat.zero_le _⟩ (fun r5 S4 h => ?_)
  refine jB C [(.pop, 1, 0), (.iinc 2 1, 3, 1)] 67 [(2, .int (v2 + 1)), (0, .ref (b + v0)), (1, .int v1), (3, .int v3)] [] (by decide +kernel) rfl rfl ?_
  refine jGoto C 7 (by decide +kernel : decode cX6_term 67 = .ok (.goto (-60), 3)) rfl ?_
  refine jSub [1, 2, 0] rfl ?_
  exact hk7 (v2 + 1) S4 h
set_option maxHeartbeats 4000000 in
set_option maxRecDepth 100000 in
theorem j_X6_term_r_7_n {p : Program} {l : Launch} {e : Env} {s : State} {m : MethodId} {args : Array Value} {below : List Frame} {meth : Method} {c : Code} {b : Nat} {D : va_G} {cy : Nat → ClassId} {G : Gm} {R : Nat → Int32 → (St → Prop) → St → Prop} {v0 : Nat} {v1 : Int32} {Q : St → Prop} (n : Nat) (hRec : ∀ {v0 : Nat} {v1 : Int32} {Q : St → Prop} {S : St}, ok G 5 v0 → R v0 v1 Q S → MT yX6_sum cX6_sum 4 none (rm_X6_sum n) 0 0 (fun b => [.ref (b + v0), .int v1]) G S (QV (fun G1 S1 => G1 = G ∧ Q S1))) (C : CX p s m args meth c b D cy cX6_term RX6 4 none) (hE : s.heap.size + 0 ≤ b + G.2.2) (t_v0 : ok G 5 v0) : ∀ k (v2 : Int32) S, f_X6_term_r_7_n G R v0 v1 Q k v2 S → J p l e (rm_X6_term n) s m args below meth c b D cy 4 (zV b D cy below args s G Q) 0 0 G S 7 [(0, .ref (b + v0)), (1, .int v1), (2, .int v2)] [] := by
  intro k
  induction k with
  | zero => intro v2 S h; exact h.elim
  | succ k ih =>
    intro v2 S h
    unfold f_X6_term_r_7_n at h
    refine jB C [(.iload_n 2, 1, 0), (.sipush 400, 3, 400)] 11 [(0, .ref (b + v0)), (1, .int v1), (2, .int v2)] [.int 400, .int v2] (by decide +kernel) rfl rfl ?_
    refine jIcmp_ge C 14 70 (by decide +kernel : decode cX6_term 11 = .ok (.if_icmp .ge 59, 3)) rfl rfl (fun c1 => ?_) (fun c1 => ?_)
    · have h := it1 h c1
      exact jRetV C (by decide +kernel : decode cX6_term 70 = .ok (.return_, 1)) (Nat.le_refl _) (Nat.le_refl _) ⟨rfl, h⟩
    · have h := it2 h c1
      refine jB C [(.aload_n 0, 1, 0)] 15 [(0, .ref (b + v0)), (1, .int v1), (2, .int v2)] [.ref (b + v0)] (by decide +kernel) rfl rfl ?_
      refine jcV_I C 18 (rest := []) (ok_X6_here t_v0 h) (by decide +kernel : decode cX6_term 15 = .ok (.invokevirtual 63, 3)) rfl wd_676 wd_678 wp_42 wd_9 wd_679 ⟨rfl, rfl⟩ hd_X6_here ⟨by simp only [rm_X6_term, rm_X6_here]; omega, by simp only [rm_X6_term, rm_X6_here]; omega⟩ t_v0 kX6 (by decide) rfl rfl rfl (Nat.le_of_ble_eq_true rfl) ⟨Nat.zero_le _, Nat.zero_le _⟩ (fun r3 S2 h => ?_)
      refine jcS_I C 21 (rest := []) (ok_X6_stepOf h) (by decide +kernel : decode cX6_term 18 = .ok (.invokestatic 149, 3)) rfl wd_726 wd_727 wd_9 wd_728 ⟨rfl, rfl⟩ hd_X6_stepOf ⟨by simp only [rm_X6_term, rm_X6_stepOf]; omega, by simp only [rm_X6_term, rm_X6_stepOf]; omega⟩ rfl rfl (Nat.le_of_ble_eq_true rfl) ⟨Nat.zero_le _, Nat.zero_le _⟩ (fun r5 S4 h => ?_)
      refine jB C [(.istore_n 3, 1, 0), (.iload_n 3, 1, 0), (.iconst 4, 1, 4)] 24 [(3, .int r5), (0, .ref (b + v0)), (1, .int v1), (2, .int v2)] [.int 4, .int r5] (by decide +kernel) rfl rfl ?_
      refine jIcmp_eq C 27 39 (by decide +kernel : decode cX6_term 24 = .ok (.if_icmp .eq 15, 3)) rfl rfl (fun c6 => ?_) (fun c6 => ?_)
      · have h := it1 h c6
        refine jSub [1, 2, 3, 0] rfl ?_
        exact j_X6_term_r_39 n hRec C hE t_v0 ih h
      · have h := it2 h c6
        refine jB C [(.iload_n 3, 1, 0), (.iconst 5, 1, 5)] 29 [(3, .int r5), (0, .ref (b + v0)), (1, .int v1), (2, .int v2)] [.int 5, .int r5] (by decide +kernel) rfl rfl ?_
        refine jIcmp_eq C 32 39 (by decide +kernel : decode cX6_term 29 = .ok (.if_icmp .eq 10, 3)) rfl rfl (fun c7 => ?_) (fun c7 => ?_)
        · have h := it1 h c7
          refine jSub [1, 2, 3, 0] rfl ?_
          exact j_X6_term_r_39 n hRec C hE t_v0 ih h
        · have h := it2 h c7
          refine jB C [(.iload_n 3, 1, 0), (.bipush 6, 2, 6)] 35 [(3, .int r5), (0, .ref (b + v0)), (1, .int v1), (2, .int v2)] [.int 6, .int r5] (by decide +kernel) rfl rfl ?_
          refine jIcmp_eq C 38 39 (by decide +kernel : decode cX6_term 35 = .ok (.if_icmp .eq 4, 3)) rfl rfl (fun c8 => ?_) (fun c8 => ?_)
          · have h := it1 h c8
            refine jSub [1, 2, 3, 0] rfl ?_
            exact j_X6_term_r_39 n hRec C hE t_v0 ih h
          · have h := it2 h c8
            exact jRetV C (by decide +kernel : decode cX6_term 38 = .ok (.return_, 1)) (Nat.le_refl _) (Nat.le_refl _) ⟨rfl, h⟩
theorem j_X6_term_r_7 {p : Program} {l : Launch} {e : Env} {s : State} {m : MethodId} {args : Array Value} {below : List Frame} {meth : Method} {c : Code} {b : Nat} {D : va_G} {cy : Nat → ClassId} {G : Gm} {R : Nat → Int32 → (St → Prop) → St → Prop} {v0 : Nat} {v1 : Int32} {v2 : Int32} {S : St} {Q : St → Prop} (n : Nat) (hRec : ∀ {v0 : Nat} {v1 : Int32} {Q : St → Prop} {S : St}, ok G 5 v0 → R v0 v1 Q S → MT yX6_sum cX6_sum 4 none (rm_X6_sum n) 0 0 (fun b => [.ref (b + v0), .int v1]) G S (QV (fun G1 S1 => G1 = G ∧ Q S1))) (C : CX p s m args meth c b D cy cX6_term RX6 4 none) (hE : s.heap.size + 0 ≤ b + G.2.2) (t_v0 : ok G 5 v0) (h : f_X6_term_r_7 G R v0 v1 Q v2 S) : J p l e (rm_X6_term n) s m args below meth c b D cy 4 (zV b D cy below args s G Q) 0 0 G S 7 [(0, .ref (b + v0)), (1, .int v1), (2, .int v2)] [] := by
  obtain ⟨k, h⟩ := h
  exact j_X6_term_r_7_n n hRec C hE t_v0 k v2 S h
set_option maxHeartbeats 4000000 in
set_option maxRecDepth 100000 in
theorem j_X6_term_r {p : Program} {l : Launch} {e : Env} {s : State} {m : MethodId} {args : Array Value} {below : List Frame} {meth : Method} {c : Code} {b : Nat} {D : va_G} {cy : Nat → ClassId} {G : Gm} {R : Nat → Int32 → (St → Prop) → St → Prop} {v0 : Nat} {v1 : Int32} {S : St} {Q : St → Prop} (n : Nat) (hRec : ∀ {v0 : Nat} {v1 : Int32} {Q : St → Prop} {S : St}, ok G 5 v0 → R v0 v1 Q S → MT yX6_sum cX6_sum 4 none (rm_X6_sum n) 0 0 (fun b => [.ref (b + v0), .int v1]) G S (QV (fun G1 S1 => G1 = G ∧ Q S1))) (C : CX p s m args meth c b D cy cX6_term RX6 4 none) (hE : s.heap.size + 0 ≤ b + G.2.2) (t_v0 : ok G 5 v0) (h : f_X6_term_r G R v0 v1 Q S) : J p l e (rm_X6_term n) s m args below meth c b D cy 4 (zV b D cy below args s G Q) 0 0 G S 0 [(0, .ref (b + v0)), (1, .int v1)] [] := by
  unfold f_X6_term_r at h
  refine jB C [(.aload_n 0, 1, 0), (.iload_n 1, 1, 0)] 2 [(0, .ref (b + v0)), (1, .int v1)] [.int v1, .ref (b + v0)] (by decide +kernel) rfl rfl ?_
  refine jcV_V C 5 (rest := []) (ok_X6_part_r n hRec t_v0 h) (by decide +kernel : decode cX6_term 2 = .ok (.invokevirtual 155, 3)) rfl wd_700 wd_702 wp_48 wd_9 wd_703 ⟨rfl, rfl⟩ hd_X6_part ⟨by simp only [rm_X6_term, rm_X6_part]; omega, by simp only [rm_X6_term, rm_X6_part]; omega⟩ t_v0 kX6 (by decide) rfl rfl rfl (Nat.le_of_ble_eq_true rfl) ⟨Nat.zero_le _, Nat.zero_le _⟩ (fun S1 h => ?_)
  refine jB C [(.iconst 0, 1, 0), (.istore_n 2, 1, 0)] 7 [(2, .int 0), (0, .ref (b + v0)), (1, .int v1)] [] (by decide +kernel) rfl rfl ?_
  refine jSub [1, 2, 0] rfl ?_
  exact j_X6_term_r_7 n hRec C hE t_v0 h
theorem ok_X6_term_r {G : Gm} {v0 : Nat} {v1 : Int32} {S : St} {Q : St → Prop}  {R : Nat → Int32 → (St → Prop) → St → Prop} (n : Nat) (hRec : ∀ {v0 : Nat} {v1 : Int32} {Q : St → Prop} {S : St}, ok G 5 v0 → R v0 v1 Q S → MT yX6_sum cX6_sum 4 none (rm_X6_sum n) 0 0 (fun b => [.ref (b + v0), .int v1]) G S (QV (fun G1 S1 => G1 = G ∧ Q S1)))  (t_v0 : ok G 5 v0) (h : f_X6_term_r G R v0 v1 Q S) : MT yX6_term cX6_term 4 none (rm_X6_term n) 0 0 (fun b => [.ref (b + v0), .int v1]) G S (QV (fun G1 S1 => G1 = G ∧ Q S1)) := MT.ofJ (by decide +kernel) (fun b => [(0, .ref (b + v0)), (1, .int v1)]) (fun b => rfl) (fun b => Nat.le_of_ble_eq_true rfl) (fun l b D cy p e s m below meth c C hE hn => j_X6_term_r n hRec C hE t_v0 h)
theorem hd_X6_term : yX6_term.cls ≠ "java/lang/invoke/MethodHandle" ∧ yX6_term.cls ≠ "java/lang/invoke/VarHandle" ∧ (parseMethodDescriptor yX6_term.desc).map (fun d => d.parameters.length) = some 1 := by decide +kernel
set_option maxHeartbeats 4000000 in
set_option maxRecDepth 100000 in
theorem j_X6_sum_r_33 {p : Program} {l : Launch} {e : Env} {s : State} {m : MethodId} {args : Array Value} {below : List Frame} {meth : Method} {c : Code} {b : Nat} {D : va_G} {cy : Nat → ClassId} {G : Gm} {R : Nat → Int32 → (St → Prop) → St → Prop} {k7 : Int32 → St → Prop} {v0 : Nat} {v1 : Int32} {v2 : Int32} {v3 : Int32} {S : St} {Q : St → Prop} (n : Nat) (hRec : ∀ {v0 : Nat} {v1 : Int32} {Q : St → Prop} {S : St}, ok G 5 v0 → R v0 v1 Q S → MT yX6_sum cX6_sum 4 none (rm_X6_sum n) 0 0 (fun b => [.ref (b + v0), .int v1]) G S (QV (fun G1 S1 => G1 = G ∧ Q S1))) (C : CX p s m args meth c b D cy cX6_sum RX6 4 none) (hE : s.heap.size + 0 ≤ b + G.2.2) (t_v0 : ok G 5 v0) (hk7 : ∀ v2' S, k7 v2' S → J p l e (rm_X6_sum (n + 1)) s m args below meth c b D cy 4 (zV b D cy below args s G Q) 0 0 G S 7 [(0, .ref (b + v0)), (1, .int v1), (2, .int (v2'))] []) (h : f_X6_sum_r_33 G R k7 v0 v1 v2 v3 Q S) : J p l e (rm_X6_sum (n + 1)) s m args below meth c b D cy 4 (zV b D cy below args s G Q) 0 0 G S 33 [(0, .ref (b + v0)), (1, .int v1), (2, .int v2), (3, .int v3)] [] := by
  unfold f_X6_sum_r_33 at h
  refine jB C [(.aload_n 0, 1, 0), (.dup, 1, 0)] 35 [(0, .ref (b + v0)), (1, .int v1), (2, .int v2), (3, .int v3)] [.ref (b + v0), .ref (b + v0)] (by decide +kernel) rfl rfl ?_
  refine jGetI C 38 (by decide +kernel : decode cX6_sum 35 = .ok (.getfield 51, 3)) rfl t_v0 kX6 6 (by decide) rfl rfl (by decide) wd_281 ?_
  refine jB C [(.iconst 1, 1, 1), (.iadd, 1, 0)] 40 [(0, .ref (b + v0)), (1, .int v1), (2, .int v2), (3, .int v3)] [.int ((S.1 v0 6) + 1), .ref (b + v0)] (by decide +kernel) rfl rfl ?_
  refine jPutI C 43 (by decide +kernel : decode cX6_sum 40 = .ok (.putfield 51, 3)) rfl hE t_v0 kX6 6 (by decide) rfl rfl (by decide) rfl wd_281 rfl rfl rfl ?_
  refine jTopS (fun S1 e_S1 => ?_)
  have h := h S1 e_S1
  refine jB C [(.aload_n 0, 1, 0), (.iload_n 1, 1, 0)] 45 [(0, .ref (b + v0)), (1, .int v1), (2, .int v2), (3, .int v3)] [.int v1, .ref (b + v0)] (by decide +kernel) rfl rfl ?_
  refine jcV_V C 48 (rest := []) (ok_X6_term_r n hRec t_v0 h) (by decide +kernel : decode cX6_sum 45 = .ok (.invokevirtual 152, 3)) rfl wd_696 wd_698 wp_47 wd_9 wd_699 ⟨rfl, rfl⟩ hd_X6_term ⟨by simp only [rm_X6_sum, rm_X6_term]; omega, by simp only [rm_X6_sum, rm_X6_term]; omega⟩ t_v0 kX6 (by decide) rfl rfl rfl (Nat.le_of_ble_eq_true rfl) ⟨Nat.zero_le _, Nat.zero_le _⟩ (fun S2 h => ?_)
  refine jB C [(.aload_n 0, 1, 0)] 49 [(0, .ref (b + v0)), (1, .int v1), (2, .int v2), (3, .int v3)] [.ref (b + v0)] (by decide +kernel) rfl rfl ?_
  obtain ⟨a3, e_a3, h⟩ := h
  refine jGetR C 52 (by decide +kernel : decode cX6_sum 49 = .ok (.getfield 33, 3)) rfl t_v0 kX6 10 (by decide) rfl rfl (by decide) wd_286 e_a3 rfl (fun t_a3 => ?_)
  refine jB C [(.iload_n 3, 1, 0), (.iconst 0, 1, 0)] 54 [(0, .ref (b + v0)), (1, .int v1), (2, .int v2), (3, .int v3)] [.int 0, .int v3, .ref (b + a3)] (by decide +kernel) rfl rfl ?_
  refine jcVN_I C 57 (rest := []) (ok_X8_put t_a3 h) (by decide +kernel : decode cX6_sum 54 = .ok (.invokevirtual 137, 3)) rfl wn_718 wd_720 wp_51 wd_10 wd_721 ⟨rfl, rfl⟩ hd_X8_put ⟨by simp only [rm_X6_sum, rm_X8_put]; omega, by simp only [rm_X6_sum, rm_X8_put]; omega⟩ t_a3 kX8 (by decide) rfl rfl rfl (Nat.le_of_ble_eq_true rfl) ⟨Nat.zero_le _, Nat.zero_le _⟩ (fun r5 S4 h => ?_)
  refine jB C [(.pop, 1, 0), (.iinc 2 1, 3, 1)] 61 [(2, .int (v2 + 1)), (0, .ref (b + v0)), (1, .int v1), (3, .int v3)] [] (by decide +kernel) rfl rfl ?_
  refine jGoto C 7 (by decide +kernel : decode cX6_sum 61 = .ok (.goto (-54), 3)) rfl ?_
  refine jSub [1, 2, 0] rfl ?_
  exact hk7 (v2 + 1) S4 h
set_option maxHeartbeats 4000000 in
set_option maxRecDepth 100000 in
theorem j_X6_sum_r_7_n {p : Program} {l : Launch} {e : Env} {s : State} {m : MethodId} {args : Array Value} {below : List Frame} {meth : Method} {c : Code} {b : Nat} {D : va_G} {cy : Nat → ClassId} {G : Gm} {R : Nat → Int32 → (St → Prop) → St → Prop} {v0 : Nat} {v1 : Int32} {Q : St → Prop} (n : Nat) (hRec : ∀ {v0 : Nat} {v1 : Int32} {Q : St → Prop} {S : St}, ok G 5 v0 → R v0 v1 Q S → MT yX6_sum cX6_sum 4 none (rm_X6_sum n) 0 0 (fun b => [.ref (b + v0), .int v1]) G S (QV (fun G1 S1 => G1 = G ∧ Q S1))) (C : CX p s m args meth c b D cy cX6_sum RX6 4 none) (hE : s.heap.size + 0 ≤ b + G.2.2) (t_v0 : ok G 5 v0) : ∀ k (v2 : Int32) S, f_X6_sum_r_7_n G R v0 v1 Q k v2 S → J p l e (rm_X6_sum (n + 1)) s m args below meth c b D cy 4 (zV b D cy below args s G Q) 0 0 G S 7 [(0, .ref (b + v0)), (1, .int v1), (2, .int v2)] [] := by
  intro k
  induction k with
  | zero => intro v2 S h; exact h.elim
  | succ k ih =>
    intro v2 S h
    unfold f_X6_sum_r_7_n at h
    refine jB C [(.iload_n 2, 1, 0), (.sipush 400, 3, 400)] 11 [(0, .ref (b + v0)), (1, .int v1), (2, .int v2)] [.int 400, .int v2] (by decide +kernel) rfl rfl ?_
    refine jIcmp_ge C 14 64 (by decide +kernel : decode cX6_sum 11 = .ok (.if_icmp .ge 53, 3)) rfl rfl (fun c1 => ?_) (fun c1 => ?_)
    · have h := it1 h c1
      exact jRetV C (by decide +kernel : decode cX6_sum 64 = .ok (.return_, 1)) (Nat.le_refl _) (Nat.le_refl _) ⟨rfl, h⟩
    · have h := it2 h c1
      refine jB C [(.aload_n 0, 1, 0)] 15 [(0, .ref (b + v0)), (1, .int v1), (2, .int v2)] [.ref (b + v0)] (by decide +kernel) rfl rfl ?_
      refine jcV_I C 18 (rest := []) (ok_X6_here t_v0 h) (by decide +kernel : decode cX6_sum 15 = .ok (.invokevirtual 63, 3)) rfl wd_676 wd_678 wp_42 wd_9 wd_679 ⟨rfl, rfl⟩ hd_X6_here ⟨by simp only [rm_X6_sum, rm_X6_here]; omega, by simp only [rm_X6_sum, rm_X6_here]; omega⟩ t_v0 kX6 (by decide) rfl rfl rfl (Nat.le_of_ble_eq_true rfl) ⟨Nat.zero_le _, Nat.zero_le _⟩ (fun r3 S2 h => ?_)
      refine jcS_I C 21 (rest := []) (ok_X6_stepOf h) (by decide +kernel : decode cX6_sum 18 = .ok (.invokestatic 149, 3)) rfl wd_726 wd_727 wd_9 wd_728 ⟨rfl, rfl⟩ hd_X6_stepOf ⟨by simp only [rm_X6_sum, rm_X6_stepOf]; omega, by simp only [rm_X6_sum, rm_X6_stepOf]; omega⟩ rfl rfl (Nat.le_of_ble_eq_true rfl) ⟨Nat.zero_le _, Nat.zero_le _⟩ (fun r5 S4 h => ?_)
      refine jB C [(.istore_n 3, 1, 0), (.iload_n 3, 1, 0), (.iconst 2, 1, 2)] 24 [(3, .int r5), (0, .ref (b + v0)), (1, .int v1), (2, .int v2)] [.int 2, .int r5] (by decide +kernel) rfl rfl ?_
      refine jIcmp_eq C 27 33 (by decide +kernel : decode cX6_sum 24 = .ok (.if_icmp .eq 9, 3)) rfl rfl (fun c6 => ?_) (fun c6 => ?_)
      · have h := it1 h c6
        refine jSub [1, 2, 3, 0] rfl ?_
        exact j_X6_sum_r_33 n hRec C hE t_v0 ih h
      · have h := it2 h c6
        refine jB C [(.iload_n 3, 1, 0), (.iconst 3, 1, 3)] 29 [(3, .int r5), (0, .ref (b + v0)), (1, .int v1), (2, .int v2)] [.int 3, .int r5] (by decide +kernel) rfl rfl ?_
        refine jIcmp_eq C 32 33 (by decide +kernel : decode cX6_sum 29 = .ok (.if_icmp .eq 4, 3)) rfl rfl (fun c7 => ?_) (fun c7 => ?_)
        · have h := it1 h c7
          refine jSub [1, 2, 3, 0] rfl ?_
          exact j_X6_sum_r_33 n hRec C hE t_v0 ih h
        · have h := it2 h c7
          exact jRetV C (by decide +kernel : decode cX6_sum 32 = .ok (.return_, 1)) (Nat.le_refl _) (Nat.le_refl _) ⟨rfl, h⟩
theorem j_X6_sum_r_7 {p : Program} {l : Launch} {e : Env} {s : State} {m : MethodId} {args : Array Value} {below : List Frame} {meth : Method} {c : Code} {b : Nat} {D : va_G} {cy : Nat → ClassId} {G : Gm} {R : Nat → Int32 → (St → Prop) → St → Prop} {v0 : Nat} {v1 : Int32} {v2 : Int32} {S : St} {Q : St → Prop} (n : Nat) (hRec : ∀ {v0 : Nat} {v1 : Int32} {Q : St → Prop} {S : St}, ok G 5 v0 → R v0 v1 Q S → MT yX6_sum cX6_sum 4 none (rm_X6_sum n) 0 0 (fun b => [.ref (b + v0), .int v1]) G S (QV (fun G1 S1 => G1 = G ∧ Q S1))) (C : CX p s m args meth c b D cy cX6_sum RX6 4 none) (hE : s.heap.size + 0 ≤ b + G.2.2) (t_v0 : ok G 5 v0) (h : f_X6_sum_r_7 G R v0 v1 Q v2 S) : J p l e (rm_X6_sum (n + 1)) s m args below meth c b D cy 4 (zV b D cy below args s G Q) 0 0 G S 7 [(0, .ref (b + v0)), (1, .int v1), (2, .int v2)] [] := by
  obtain ⟨k, h⟩ := h
  exact j_X6_sum_r_7_n n hRec C hE t_v0 k v2 S h
set_option maxHeartbeats 4000000 in
set_option maxRecDepth 100000 in
theorem j_X6_sum_r {p : Program} {l : Launch} {e : Env} {s : State} {m : MethodId} {args : Array Value} {below : List Frame} {meth : Method} {c : Code} {b : Nat} {D : va_G} {cy : Nat → ClassId} {G : Gm} {R : Nat → Int32 → (St → Prop) → St → Prop} {v0 : Nat} {v1 : Int32} {S : St} {Q : St → Prop} (n : Nat) (hRec : ∀ {v0 : Nat} {v1 : Int32} {Q : St → Prop} {S : St}, ok G 5 v0 → R v0 v1 Q S → MT yX6_sum cX6_sum 4 none (rm_X6_sum n) 0 0 (fun b => [.ref (b + v0), .int v1]) G S (QV (fun G1 S1 => G1 = G ∧ Q S1))) (C : CX p s m args meth c b D cy cX6_sum RX6 4 none) (hE : s.heap.size + 0 ≤ b + G.2.2) (t_v0 : ok G 5 v0) (h : f_X6_sum_r G R v0 v1 Q S) : J p l e (rm_X6_sum (n + 1)) s m args below meth c b D cy 4 (zV b D cy below args s G Q) 0 0 G S 0 [(0, .ref (b + v0)), (1, .int v1)] [] := by
  unfold f_X6_sum_r at h
  refine jB C [(.aload_n 0, 1, 0), (.iload_n 1, 1, 0)] 2 [(0, .ref (b + v0)), (1, .int v1)] [.int v1, .ref (b + v0)] (by decide +kernel) rfl rfl ?_
  refine jcV_V C 5 (rest := []) (ok_X6_term_r n hRec t_v0 h) (by decide +kernel : decode cX6_sum 2 = .ok (.invokevirtual 152, 3)) rfl wd_696 wd_698 wp_47 wd_9 wd_699 ⟨rfl, rfl⟩ hd_X6_term ⟨by simp only [rm_X6_sum, rm_X6_term]; omega, by simp only [rm_X6_sum, rm_X6_term]; omega⟩ t_v0 kX6 (by decide) rfl rfl rfl (Nat.le_of_ble_eq_true rfl) ⟨Nat.zero_le _, Nat.zero_le _⟩ (fun S1 h => ?_)
  refine jB C [(.iconst 0, 1, 0), (.istore_n 2, 1, 0)] 7 [(2, .int 0), (0, .ref (b + v0)), (1, .int v1)] [] (by decide +kernel) rfl rfl ?_
  refine jSub [1, 2, 0] rfl ?_
  exact j_X6_sum_r_7 n hRec C hE t_v0 h
theorem ok_X6_sum_r {G : Gm} {v0 : Nat} {v1 : Int32} {S : St} {Q : St → Prop}  {R : Nat → Int32 → (St → Prop) → St → Prop} (n : Nat) (hRec : ∀ {v0 : Nat} {v1 : Int32} {Q : St → Prop} {S : St}, ok G 5 v0 → R v0 v1 Q S → MT yX6_sum cX6_sum 4 none (rm_X6_sum n) 0 0 (fun b => [.ref (b + v0), .int v1]) G S (QV (fun G1 S1 => G1 = G ∧ Q S1)))  (t_v0 : ok G 5 v0) (h : f_X6_sum_r G R v0 v1 Q S) : MT yX6_sum cX6_sum 4 none (rm_X6_sum (n + 1)) 0 0 (fun b => [.ref (b + v0), .int v1]) G S (QV (fun G1 S1 => G1 = G ∧ Q S1)) := MT.ofJ (by decide +kernel) (fun b => [(0, .ref (b + v0)), (1, .int v1)]) (fun b => rfl) (fun b => Nat.le_of_ble_eq_true rfl) (fun l b D cy p e s m below meth c C hE hn => j_X6_sum_r n hRec C hE t_v0 h)
theorem ok_X6_sum {G : Gm} : ∀ (n : Nat) {v0 : Nat} {v1 : Int32} {S : St} {Q : St → Prop}, ok G 5 v0 → f_X6_sum G n v0 v1 Q S → MT yX6_sum cX6_sum 4 none (rm_X6_sum n) 0 0 (fun b => [.ref (b + v0), .int v1]) G S (QV (fun G1 S1 => G1 = G ∧ Q S1))
  | 0, _, _, _, _, _, h => h.elim
  | n + 1, _, _, _, _, t, h => ok_X6_sum_r n (fun t h => ok_X6_sum n t h) t h
abbrev rm_X8_repeat : Room := { frames := 0, cells := 0, slots := 0, locals := 0 }
set_option maxHeartbeats 4000000 in
set_option maxRecDepth 100000 in
theorem j_X8_repeat {p : Program} {l : Launch} {e : Env} {s : State} {m : MethodId} {args : Array Value} {below : List Frame} {meth : Method} {c : Code} {b : Nat} {D : va_G} {cy : Nat → ClassId} {G : Gm} {v0 : Nat} {v1 : Int32} {S : St} {Q : St → Prop} (C : CX p s m args meth c b D cy cX8_repeat RX8 3 none) (hE : s.heap.size + 0 ≤ b + G.2.2) (t_v0 : ok G 7 v0) (h : f_X8_repeat G v0 v1 Q S) : J p l e rm_X8_repeat s m args below meth c b D cy 3 (zV b D cy below args s G Q) 0 0 G S 0 [(0, .ref (b + v0)), (1, .int v1)] [] := by
  unfold f_X8_repeat at h
  refine jB C [(.aload_n 0, 1, 0)] 1 [(0, .ref (b + v0)), (1, .int v1)] [.ref (b + v0)] (by decide +kernel) rfl rfl ?_
  refine jGetI C 4 (by decide +kernel : decode cX8_repeat 1 = .ok (.getfield 31, 3)) rfl t_v0 kX8 5 (by decide) rfl rfl (by decide) wd_255 ?_
  refine jB C [(.iconst 1, 1, 1), (.isub, 1, 0)] 6 [(0, .ref (b + v0)), (1, .int v1)] [.int ((S.1 v0 5) - 1)] (by decide +kernel) rfl rfl ?_
  refine jTopI (fun x1 e_x1 => ?_)
  have h := h x1 e_x1
  refine jB C [(.istore_n 2, 1, 0), (.iload_n 2, 1, 0)] 8 [(2, .int x1), (0, .ref (b + v0)), (1, .int v1)] [.int x1] (by decide +kernel) rfl rfl ?_
  refine jIf_lt C 11 27 (by decide +kernel : decode cX8_repeat 8 = .ok (.ifCond .lt 19, 3)) rfl rfl (fun c2 => ?_) (fun c2 => ?_)
  · have h := it1 h c2
    exact jRetV C (by decide +kernel : decode cX8_repeat 27 = .ok (.return_, 1)) (Nat.le_refl _) (Nat.le_refl _) ⟨rfl, h⟩
  · have h := it2 h c2
    refine jB C [(.iload_n 2, 1, 0), (.aload_n 0, 1, 0)] 13 [(2, .int x1), (0, .ref (b + v0)), (1, .int v1)] [.ref (b + v0), .int x1] (by decide +kernel) rfl rfl ?_
    obtain ⟨a3, e_a3, h⟩ := h
    refine jGetR C 16 (by decide +kernel : decode cX8_repeat 13 = .ok (.getfield 19, 3)) rfl t_v0 kX8 1 (by decide) rfl rfl (by decide) wd_250 e_a3 rfl (fun t_a3 => ?_)
    refine jAlen11 C 17 (by decide +kernel : decode cX8_repeat 16 = .ok (.arraylength, 1)) rfl t_a3 ?_
    refine jIcmp_ge C 20 27 (by decide +kernel : decode cX8_repeat 17 = .ok (.if_icmp .ge 10, 3)) rfl rfl (fun c4 => ?_) (fun c4 => ?_)
    · have h := it1 h c4
      exact jRetV C (by decide +kernel : decode cX8_repeat 27 = .ok (.return_, 1)) (Nat.le_refl _) (Nat.le_refl _) ⟨rfl, h⟩
    · have h := it2 h c4
      refine jB C [(.aload_n 0, 1, 0)] 21 [(2, .int x1), (0, .ref (b + v0)), (1, .int v1)] [.ref (b + v0)] (by decide +kernel) rfl rfl ?_
      obtain ⟨a5, e_a5, h⟩ := h
      refine jGetR C 24 (by decide +kernel : decode cX8_repeat 21 = .ok (.getfield 19, 3)) rfl t_v0 kX8 1 (by decide) rfl rfl (by decide) wd_250 e_a5 rfl (fun t_a5 => ?_)
      refine jB C [(.iload_n 2, 1, 0), (.iload_n 1, 1, 0)] 26 [(2, .int x1), (0, .ref (b + v0)), (1, .int v1)] [.int v1, .int x1, .ref (b + a5)] (by decide +kernel) rfl rfl ?_
      obtain ⟨y6, h⟩ := h
      refine jIast C 27 (by decide +kernel : decode cX8_repeat 26 = .ok (.iastore, 1)) rfl hE t_a5 y6 ?_
      refine jTopS (fun S7 e_S7 => ?_)
      have h := h S7 e_S7
      exact jRetV C (by decide +kernel : decode cX8_repeat 27 = .ok (.return_, 1)) (Nat.le_refl _) (Nat.le_refl _) ⟨rfl, h⟩
theorem ok_X8_repeat {G : Gm} {v0 : Nat} {v1 : Int32} {S : St} {Q : St → Prop}  (t_v0 : ok G 7 v0) (h : f_X8_repeat G v0 v1 Q S) : MT yX8_repeat cX8_repeat 3 none rm_X8_repeat 0 0 (fun b => [.ref (b + v0), .int v1]) G S (QV (fun G1 S1 => G1 = G ∧ Q S1)) := MT.ofJ (by decide +kernel) (fun b => [(0, .ref (b + v0)), (1, .int v1)]) (fun b => rfl) (fun b => Nat.le_of_ble_eq_true rfl) (fun l b D cy p e s m below meth c C hE hn => j_X8_repeat C hE t_v0 h)
theorem hd_X8_repeat : yX8_repeat.cls ≠ "java/lang/invoke/MethodHandle" ∧ yX8_repeat.cls ≠ "java/lang/invoke/VarHandle" ∧ (parseMethodDescriptor yX8_repeat.desc).map (fun d => d.parameters.length) = some 1 := by decide +kernel
abbrev rm_X6_restOfOrder : Room := { frames := 35, cells := 0, slots := 0, locals := 1163 }
set_option maxHeartbeats 4000000 in
set_option maxRecDepth 100000 in
theorem j_X6_restOfOrder_64 {p : Program} {l : Launch} {e : Env} {s : State} {m : MethodId} {args : Array Value} {below : List Frame} {meth : Method} {c : Code} {b : Nat} {D : va_G} {cy : Nat → ClassId} {G : Gm} {v0 : Nat} {S : St} {Q : St → Prop} (C : CX p s m args meth c b D cy cX6_restOfOrder RX6 3 none) (hE : s.heap.size + 0 ≤ b + G.2.2) (t_v0 : ok G 5 v0) (h : f_X6_restOfOrder_64 G v0 Q S) : J p l e rm_X6_restOfOrder s m args below meth c b D cy 3 (zV b D cy below args s G Q) 0 0 G S 64 [(0, .ref (b + v0))] [] := by
  unfold f_X6_restOfOrder_64 at h
  refine jB C [(.aload_n 0, 1, 0)] 65 [(0, .ref (b + v0))] [.ref (b + v0)] (by decide +kernel) rfl rfl ?_
  refine jcV_V C 68 (rest := []) (ok_X6_fail t_v0 h) (by decide +kernel : decode cX6_restOfOrder 65 = .ok (.invokevirtual 67, 3)) rfl wd_680 wd_682 wp_43 wd_9 wd_683 ⟨rfl, rfl⟩ hd_X6_fail ⟨Nat.le_of_ble_eq_true rfl, Nat.le_of_ble_eq_true rfl⟩ t_v0 kX6 (by decide) rfl rfl rfl (Nat.le_of_ble_eq_true rfl) ⟨Nat.zero_le _, Nat.zero_le _⟩ (fun S1 h => ?_)
  refine jGoto C 89 (by decide +kernel : decode cX6_restOfOrder 68 = .ok (.goto 21, 3)) rfl ?_
  exact jRetV C (by decide +kernel : decode cX6_restOfOrder 89 = .ok (.return_, 1)) (Nat.le_refl _) (Nat.le_refl _) ⟨rfl, h⟩
set_option maxHeartbeats 4000000 in
set_option maxRecDepth 100000 in
theorem j_X6_restOfOrder_29 {p : Program} {l : Launch} {e : Env} {s : State} {m : MethodId} {args : Array Value} {below : List Frame} {meth : Method} {c : Code} {b : Nat} {D : va_G} {cy : Nat → ClassId} {G : Gm} {v0 : Nat} {S : St} {Q : St → Prop} (C : CX p s m args meth c b D cy cX6_restOfOrder RX6 3 none) (hE : s.heap.size + 0 ≤ b + G.2.2) (t_v0 : ok G 5 v0) (h : f_X6_restOfOrder_29 G v0 Q S) : J p l e rm_X6_restOfOrder s m args below meth c b D cy 3 (zV b D cy below args s G Q) 0 0 G S 29 [(0, .ref (b + v0))] [] := by
  unfold f_X6_restOfOrder_29 at h
  refine jB C [(.aload_n 0, 1, 0)] 30 [(0, .ref (b + v0))] [.ref (b + v0)] (by decide +kernel) rfl rfl ?_
  refine jcV_I C 33 (rest := []) (ok_X6_here t_v0 h) (by decide +kernel : decode cX6_restOfOrder 30 = .ok (.invokevirtual 63, 3)) rfl wd_676 wd_678 wp_42 wd_9 wd_679 ⟨rfl, rfl⟩ hd_X6_here ⟨Nat.le_of_ble_eq_true rfl, Nat.le_of_ble_eq_true rfl⟩ t_v0 kX6 (by decide) rfl rfl rfl (Nat.le_of_ble_eq_true rfl) ⟨Nat.zero_le _, Nat.zero_le _⟩ (fun r2 S1 h => ?_)
  refine jB C [(.bipush 10, 2, 10)] 35 [(0, .ref (b + v0))] [.int 10, .int r2] (by decide +kernel) rfl rfl ?_
  refine jIcmp_ne C 38 89 (by decide +kernel : decode cX6_restOfOrder 35 = .ok (.if_icmp .ne 54, 3)) rfl rfl (fun c3 => ?_) (fun c3 => ?_)
  · have h := it2 h c3
    exact jRetV C (by decide +kernel : decode cX6_restOfOrder 89 = .ok (.return_, 1)) (Nat.le_refl _) (Nat.le_refl _) ⟨rfl, h⟩
  · have h := it1 h c3
    refine jB C [(.aload_n 0, 1, 0), (.dup, 1, 0)] 40 [(0, .ref (b + v0))] [.ref (b + v0), .ref (b + v0)] (by decide +kernel) rfl rfl ?_
    refine jGetI C 43 (by decide +kernel : decode cX6_restOfOrder 40 = .ok (.getfield 51, 3)) rfl t_v0 kX6 6 (by decide) rfl rfl (by decide) wd_281 ?_
    refine jB C [(.iconst 1, 1, 1), (.iadd, 1, 0)] 45 [(0, .ref (b + v0))] [.int ((S1.1 v0 6) + 1), .ref (b + v0)] (by decide +kernel) rfl rfl ?_
    refine jPutI C 48 (by decide +kernel : decode cX6_restOfOrder 45 = .ok (.putfield 51, 3)) rfl hE t_v0 kX6 6 (by decide) rfl rfl (by decide) rfl wd_281 rfl rfl rfl ?_
    refine jTopS (fun S4 e_S4 => ?_)
    have h := h S4 e_S4
    refine jB C [(.aload_n 0, 1, 0)] 49 [(0, .ref (b + v0))] [.ref (b + v0)] (by decide +kernel) rfl rfl ?_
    refine jcV_I C 52 (rest := []) (ok_X6_numberHere t_v0 h) (by decide +kernel : decode cX6_restOfOrder 49 = .ok (.invokevirtual 128, 3)) rfl wd_708 wd_710 wp_50 wd_9 wd_711 ⟨rfl, rfl⟩ hd_X6_numberHere ⟨Nat.le_of_ble_eq_true rfl, Nat.le_of_ble_eq_true rfl⟩ t_v0 kX6 (by decide) rfl rfl rfl (Nat.le_of_ble_eq_true rfl) ⟨Nat.zero_le _, Nat.zero_le _⟩ (fun r6 S5 h => ?_)
    refine jB C [(.istore_n 2, 1, 0), (.iload_n 2, 1, 0), (.iconst 1, 1, 1)] 55 [(2, .int r6), (0, .ref (b + v0))] [.int 1, .int r6] (by decide +kernel) rfl rfl ?_
    refine jIcmp_lt C 58 64 (by decide +kernel : decode cX6_restOfOrder 55 = .ok (.if_icmp .lt 9, 3)) rfl rfl (fun c7 => ?_) (fun c7 => ?_)
    · have h := it1 h c7
      refine jSub [1] rfl ?_
      exact j_X6_restOfOrder_64 C hE t_v0 h
    · have h := it2 h c7
      refine jB C [(.iload_n 2, 1, 0), (.bipush 20, 2, 20)] 61 [(2, .int r6), (0, .ref (b + v0))] [.int 20, .int r6] (by decide +kernel) rfl rfl ?_
      refine jIcmp_le C 64 71 (by decide +kernel : decode cX6_restOfOrder 61 = .ok (.if_icmp .le 10, 3)) rfl rfl (fun c8 => ?_) (fun c8 => ?_)
      · have h := it1 h c8
        refine jB C [(.aload_n 0, 1, 0), (.dup, 1, 0)] 73 [(2, .int r6), (0, .ref (b + v0))] [.ref (b + v0), .ref (b + v0)] (by decide +kernel) rfl rfl ?_
        refine jGetI C 76 (by decide +kernel : decode cX6_restOfOrder 73 = .ok (.getfield 51, 3)) rfl t_v0 kX6 6 (by decide) rfl rfl (by decide) wd_281 ?_
        refine jB C [(.iconst 1, 1, 1), (.iadd, 1, 0)] 78 [(2, .int r6), (0, .ref (b + v0))] [.int ((S5.1 v0 6) + 1), .ref (b + v0)] (by decide +kernel) rfl rfl ?_
        refine jPutI C 81 (by decide +kernel : decode cX6_restOfOrder 78 = .ok (.putfield 51, 3)) rfl hE t_v0 kX6 6 (by decide) rfl rfl (by decide) rfl wd_281 rfl rfl rfl ?_
        refine jTopS (fun S9 e_S9 => ?_)
        have h := h S9 e_S9
        refine jB C [(.aload_n 0, 1, 0)] 82 [(2, .int r6), (0, .ref (b + v0))] [.ref (b + v0)] (by decide +kernel) rfl rfl ?_
        obtain ⟨a10, e_a10, h⟩ := h
        refine jGetR C 85 (by decide +kernel : decode cX6_restOfOrder 82 = .ok (.getfield 33, 3)) rfl t_v0 kX6 10 (by decide) rfl rfl (by decide) wd_286 e_a10 rfl (fun t_a10 => ?_)
        refine jB C [(.iload_n 2, 1, 0)] 86 [(2, .int r6), (0, .ref (b + v0))] [.int r6, .ref (b + a10)] (by decide +kernel) rfl rfl ?_
        refine jcVN_V C 89 (rest := []) (ok_X8_repeat t_a10 h) (by decide +kernel : decode cX6_restOfOrder 86 = .ok (.invokevirtual 131, 3)) rfl wn_734 wd_736 wp_54 wd_10 wd_737 ⟨rfl, rfl⟩ hd_X8_repeat ⟨Nat.le_of_ble_eq_true rfl, Nat.le_of_ble_eq_true rfl⟩ t_a10 kX8 (by decide) rfl rfl rfl (Nat.le_of_ble_eq_true rfl) ⟨Nat.zero_le _, Nat.zero_le _⟩ (fun S11 h => ?_)
        exact jRetV C (by decide +kernel : decode cX6_restOfOrder 89 = .ok (.return_, 1)) (Nat.le_refl _) (Nat.le_refl _) ⟨rfl, h⟩
      · have h := it2 h c8
        refine jSub [1] rfl ?_
        exact j_X6_restOfOrder_64 C hE t_v0 h
set_option maxHeartbeats 4000000 in
set_option maxRecDepth 100000 in
theorem j_X6_restOfOrder_21 {p : Program} {l : Launch} {e : Env} {s : State} {m : MethodId} {args : Array Value} {below : List Frame} {meth : Method} {c : Code} {b : Nat} {D : va_G} {cy : Nat → ClassId} {G : Gm} {v0 : Nat} {u0 : Int32} {u1 : Nat} {S : St} {Q : St → Prop} (C : CX p s m args meth c b D cy cX6_restOfOrder RX6 3 none) (hE : s.heap.size + 0 ≤ b + G.2.2) (t_v0 : ok G 5 v0) (t_u1 : ok G 5 u1) (h : f_X6_restOfOrder_21 G v0 u0 u1 Q S) : J p l e rm_X6_restOfOrder s m args below meth c b D cy 3 (zV b D cy below args s G Q) 0 0 G S 21 [(0, .ref (b + v0))] [.int u0, .ref (b + u1)] := by
  unfold f_X6_restOfOrder_21 at h
  refine jcV_V C 24 (rest := []) (ok_X6_expect t_u1 h) (by decide +kernel : decode cX6_restOfOrder 21 = .ok (.invokevirtual 125, 3)) rfl wd_722 wd_724 wp_52 wd_9 wd_725 ⟨rfl, rfl⟩ hd_X6_expect ⟨Nat.le_of_ble_eq_true rfl, Nat.le_of_ble_eq_true rfl⟩ t_u1 kX6 (by decide) rfl rfl rfl (Nat.le_of_ble_eq_true rfl) ⟨Nat.zero_le _, Nat.zero_le _⟩ (fun S1 h => ?_)
  refine jB C [(.aload_n 0, 1, 0), (.iconst 0, 1, 0)] 26 [(0, .ref (b + v0))] [.int 0, .ref (b + v0)] (by decide +kernel) rfl rfl ?_
  refine jcV_V C 29 (rest := []) (ok_X6_sum 10 t_v0 h) (by decide +kernel : decode cX6_restOfOrder 26 = .ok (.invokevirtual 113, 3)) rfl wd_692 wd_694 wp_46 wd_9 wd_695 ⟨rfl, rfl⟩ hd_X6_sum ⟨Nat.le_of_ble_eq_true rfl, Nat.le_of_ble_eq_true rfl⟩ t_v0 kX6 (by decide) rfl rfl rfl (Nat.le_of_ble_eq_true rfl) ⟨Nat.zero_le _, Nat.zero_le _⟩ (fun S2 h => ?_)
  refine jSub [0] rfl ?_
  exact j_X6_restOfOrder_29 C hE t_v0 h
set_option maxHeartbeats 4000000 in
set_option maxRecDepth 100000 in
theorem j_X6_restOfOrder_9 {p : Program} {l : Launch} {e : Env} {s : State} {m : MethodId} {args : Array Value} {below : List Frame} {meth : Method} {c : Code} {b : Nat} {D : va_G} {cy : Nat → ClassId} {G : Gm} {v0 : Nat} {v1 : Int32} {S : St} {Q : St → Prop} (C : CX p s m args meth c b D cy cX6_restOfOrder RX6 3 none) (hE : s.heap.size + 0 ≤ b + G.2.2) (t_v0 : ok G 5 v0) (h : f_X6_restOfOrder_9 G v0 v1 Q S) : J p l e rm_X6_restOfOrder s m args below meth c b D cy 3 (zV b D cy below args s G Q) 0 0 G S 9 [(0, .ref (b + v0)), (1, .int v1)] [] := by
  unfold f_X6_restOfOrder_9 at h
  refine jB C [(.aload_n 0, 1, 0), (.iload_n 1, 1, 0)] 11 [(0, .ref (b + v0)), (1, .int v1)] [.int v1, .ref (b + v0)] (by decide +kernel) rfl rfl ?_
  refine jIf_ne C 14 19 (by decide +kernel : decode cX6_restOfOrder 11 = .ok (.ifCond .ne 8, 3)) rfl rfl (fun c1 => ?_) (fun c1 => ?_)
  · have h := it2 h c1
    refine jB C [(.bipush 12, 2, 12)] 21 [(0, .ref (b + v0)), (1, .int v1)] [.int 12, .ref (b + v0)] (by decide +kernel) rfl rfl ?_
    refine jSub [0] rfl ?_
    exact j_X6_restOfOrder_21 C hE t_v0 t_v0 h
  · have h := it1 h c1
    refine jB C [(.bipush 11, 2, 11)] 16 [(0, .ref (b + v0)), (1, .int v1)] [.int 11, .ref (b + v0)] (by decide +kernel) rfl rfl ?_
    refine jGoto C 21 (by decide +kernel : decode cX6_restOfOrder 16 = .ok (.goto 5, 3)) rfl ?_
    refine jSub [0] rfl ?_
    exact j_X6_restOfOrder_21 C hE t_v0 t_v0 h
set_option maxHeartbeats 4000000 in
set_option maxRecDepth 100000 in
theorem j_X6_restOfOrder {p : Program} {l : Launch} {e : Env} {s : State} {m : MethodId} {args : Array Value} {below : List Frame} {meth : Method} {c : Code} {b : Nat} {D : va_G} {cy : Nat → ClassId} {G : Gm} {v0 : Nat} {v1 : Int32} {S : St} {Q : St → Prop} (C : CX p s m args meth c b D cy cX6_restOfOrder RX6 3 none) (hE : s.heap.size + 0 ≤ b + G.2.2) (t_v0 : ok G 5 v0) (h : f_X6_restOfOrder G v0 v1 Q S) : J p l e rm_X6_restOfOrder s m args below meth c b D cy 3 (zV b D cy below args s G Q) 0 0 G S 0 [(0, .ref (b + v0)), (1, .int v1)] [] := by
  unfold f_X6_restOfOrder at h
  refine jB C [(.iload_n 1, 1, 0)] 1 [(0, .ref (b + v0)), (1, .int v1)] [.int v1] (by decide +kernel) rfl rfl ?_
  refine jIf_eq C 4 9 (by decide +kernel : decode cX6_restOfOrder 1 = .ok (.ifCond .eq 8, 3)) rfl rfl (fun c1 => ?_) (fun c1 => ?_)
  · have h := it1 h c1
    refine jSub [0, 1] rfl ?_
    exact j_X6_restOfOrder_9 C hE t_v0 h
  · have h := it2 h c1
    refine jB C [(.iload_n 1, 1, 0), (.iconst 2, 1, 2)] 6 [(0, .ref (b + v0)), (1, .int v1)] [.int 2, .int v1] (by decide +kernel) rfl rfl ?_
    refine jIcmp_ne C 9 29 (by decide +kernel : decode cX6_restOfOrder 6 = .ok (.if_icmp .ne 23, 3)) rfl rfl (fun c2 => ?_) (fun c2 => ?_)
    · have h := it2 h c2
      refine jSub [0] rfl ?_
      exact j_X6_restOfOrder_29 C hE t_v0 h
    · have h := it1 h c2
      refine jSub [0, 1] rfl ?_
      exact j_X6_restOfOrder_9 C hE t_v0 h
theorem ok_X6_restOfOrder {G : Gm} {v0 : Nat} {v1 : Int32} {S : St} {Q : St → Prop}  (t_v0 : ok G 5 v0) (h : f_X6_restOfOrder G v0 v1 Q S) : MT yX6_restOfOrder cX6_restOfOrder 3 none rm_X6_restOfOrder 0 0 (fun b => [.ref (b + v0), .int v1]) G S (QV (fun G1 S1 => G1 = G ∧ Q S1)) := MT.ofJ (by decide +kernel) (fun b => [(0, .ref (b + v0)), (1, .int v1)]) (fun b => rfl) (fun b => Nat.le_of_ble_eq_true rfl) (fun l b D cy p e s m below meth c C hE hn => j_X6_restOfOrder C hE t_v0 h)
theorem hd_X6_restOfOrder : yX6_restOfOrder.cls ≠ "java/lang/invoke/MethodHandle" ∧ yX6_restOfOrder.cls ≠ "java/lang/invoke/VarHandle" ∧ (parseMethodDescriptor yX6_restOfOrder.desc).map (fun d => d.parameters.length) = some 1 := by decide +kernel
abbrev rm_X6_comparison : Room := { frames := 35, cells := 0, slots := 0, locals := 1163 }
set_option maxHeartbeats 4000000 in
set_option maxRecDepth 100000 in
theorem j_X6_comparison_25 {p : Program} {l : Launch} {e : Env} {s : State} {m : MethodId} {args : Array Value} {below : List Frame} {meth : Method} {c : Code} {b : Nat} {D : va_G} {cy : Nat → ClassId} {G : Gm} {v0 : Nat} {S : St} {Q : St → Prop} (C : CX p s m args meth c b D cy cX6_comparison RX6 3 none) (hE : s.heap.size + 0 ≤ b + G.2.2) (t_v0 : ok G 5 v0) (h : f_X6_comparison_25 G v0 Q S) : J p l e rm_X6_comparison s m args below meth c b D cy 3 (zV b D cy below args s G Q) 0 0 G S 25 [(0, .ref (b + v0))] [] := by
  unfold f_X6_comparison_25 at h
  refine jB C [(.aload_n 0, 1, 0)] 26 [(0, .ref (b + v0))] [.ref (b + v0)] (by decide +kernel) rfl rfl ?_
  refine jcV_V C 29 (rest := []) (ok_X6_fail t_v0 h) (by decide +kernel : decode cX6_comparison 26 = .ok (.invokevirtual 67, 3)) rfl wd_680 wd_682 wp_43 wd_9 wd_683 ⟨rfl, rfl⟩ hd_X6_fail ⟨Nat.le_of_ble_eq_true rfl, Nat.le_of_ble_eq_true rfl⟩ t_v0 kX6 (by decide) rfl rfl rfl (Nat.le_of_ble_eq_true rfl) ⟨Nat.zero_le _, Nat.zero_le _⟩ (fun S1 h => ?_)
  exact jRetV C (by decide +kernel : decode cX6_comparison 29 = .ok (.return_, 1)) (Nat.le_refl _) (Nat.le_refl _) ⟨rfl, h⟩
set_option maxHeartbeats 4000000 in
set_option maxRecDepth 100000 in
theorem j_X6_comparison {p : Program} {l : Launch} {e : Env} {s : State} {m : MethodId} {args : Array Value} {below : List Frame} {meth : Method} {c : Code} {b : Nat} {D : va_G} {cy : Nat → ClassId} {G : Gm} {v0 : Nat} {v1 : Int32} {S : St} {Q : St → Prop} (C : CX p s m args meth c b D cy cX6_comparison RX6 3 none) (hE : s.heap.size + 0 ≤ b + G.2.2) (t_v0 : ok G 5 v0) (h : f_X6_comparison G v0 v1 Q S) : J p l e rm_X6_comparison s m args below meth c b D cy 3 (zV b D cy below args s G Q) 0 0 G S 0 [(0, .ref (b + v0)), (1, .int v1)] [] := by
  unfold f_X6_comparison at h
  refine jB C [(.aload_n 0, 1, 0), (.iload_n 1, 1, 0)] 2 [(0, .ref (b + v0)), (1, .int v1)] [.int v1, .ref (b + v0)] (by decide +kernel) rfl rfl ?_
  refine jcV_V C 5 (rest := []) (ok_X6_sum 10 t_v0 h) (by decide +kernel : decode cX6_comparison 2 = .ok (.invokevirtual 113, 3)) rfl wd_692 wd_694 wp_46 wd_9 wd_695 ⟨rfl, rfl⟩ hd_X6_sum ⟨Nat.le_of_ble_eq_true rfl, Nat.le_of_ble_eq_true rfl⟩ t_v0 kX6 (by decide) rfl rfl rfl (Nat.le_of_ble_eq_true rfl) ⟨Nat.zero_le _, Nat.zero_le _⟩ (fun S1 h => ?_)
  refine jB C [(.aload_n 0, 1, 0)] 6 [(0, .ref (b + v0)), (1, .int v1)] [.ref (b + v0)] (by decide +kernel) rfl rfl ?_
  refine jcV_I C 9 (rest := []) (ok_X6_here t_v0 h) (by decide +kernel : decode cX6_comparison 6 = .ok (.invokevirtual 63, 3)) rfl wd_676 wd_678 wp_42 wd_9 wd_679 ⟨rfl, rfl⟩ hd_X6_here ⟨Nat.le_of_ble_eq_true rfl, Nat.le_of_ble_eq_true rfl⟩ t_v0 kX6 (by decide) rfl rfl rfl (Nat.le_of_ble_eq_true rfl) ⟨Nat.zero_le _, Nat.zero_le _⟩ (fun r3 S2 h => ?_)
  refine jcS_I C 12 (rest := []) (ok_X6_stepOf h) (by decide +kernel : decode cX6_comparison 9 = .ok (.invokestatic 149, 3)) rfl wd_726 wd_727 wd_9 wd_728 ⟨rfl, rfl⟩ hd_X6_stepOf ⟨Nat.le_of_ble_eq_true rfl, Nat.le_of_ble_eq_true rfl⟩ rfl rfl (Nat.le_of_ble_eq_true rfl) ⟨Nat.zero_le _, Nat.zero_le _⟩ (fun r5 S4 h => ?_)
  refine jB C [(.istore_n 2, 1, 0), (.iload_n 2, 1, 0), (.bipush 7, 2, 7)] 16 [(2, .int r5), (0, .ref (b + v0)), (1, .int v1)] [.int 7, .int r5] (by decide +kernel) rfl rfl ?_
  refine jIcmp_lt C 19 25 (by decide +kernel : decode cX6_comparison 16 = .ok (.if_icmp .lt 9, 3)) rfl rfl (fun c6 => ?_) (fun c6 => ?_)
  · have h := it1 h c6
    refine jSub [1] rfl ?_
    exact j_X6_comparison_25 C hE t_v0 h
  · have h := it2 h c6
    refine jB C [(.iload_n 2, 1, 0), (.bipush 9, 2, 9)] 22 [(2, .int r5), (0, .ref (b + v0)), (1, .int v1)] [.int 9, .int r5] (by decide +kernel) rfl rfl ?_
    refine jIcmp_le C 25 30 (by decide +kernel : decode cX6_comparison 22 = .ok (.if_icmp .le 8, 3)) rfl rfl (fun c7 => ?_) (fun c7 => ?_)
    · have h := it1 h c7
      refine jB C [(.aload_n 0, 1, 0), (.dup, 1, 0)] 32 [(2, .int r5), (0, .ref (b + v0)), (1, .int v1)] [.ref (b + v0), .ref (b + v0)] (by decide +kernel) rfl rfl ?_
      refine jGetI C 35 (by decide +kernel : decode cX6_comparison 32 = .ok (.getfield 51, 3)) rfl t_v0 kX6 6 (by decide) rfl rfl (by decide) wd_281 ?_
      refine jB C [(.iconst 1, 1, 1), (.iadd, 1, 0)] 37 [(2, .int r5), (0, .ref (b + v0)), (1, .int v1)] [.int ((S4.1 v0 6) + 1), .ref (b + v0)] (by decide +kernel) rfl rfl ?_
      refine jPutI C 40 (by decide +kernel : decode cX6_comparison 37 = .ok (.putfield 51, 3)) rfl hE t_v0 kX6 6 (by decide) rfl rfl (by decide) rfl wd_281 rfl rfl rfl ?_
      refine jTopS (fun S8 e_S8 => ?_)
      have h := h S8 e_S8
      refine jB C [(.aload_n 0, 1, 0), (.iload_n 1, 1, 0)] 42 [(2, .int r5), (0, .ref (b + v0)), (1, .int v1)] [.int v1, .ref (b + v0)] (by decide +kernel) rfl rfl ?_
      refine jcV_V C 45 (rest := []) (ok_X6_sum 10 t_v0 h) (by decide +kernel : decode cX6_comparison 42 = .ok (.invokevirtual 113, 3)) rfl wd_692 wd_694 wp_46 wd_9 wd_695 ⟨rfl, rfl⟩ hd_X6_sum ⟨Nat.le_of_ble_eq_true rfl, Nat.le_of_ble_eq_true rfl⟩ t_v0 kX6 (by decide) rfl rfl rfl (Nat.le_of_ble_eq_true rfl) ⟨Nat.zero_le _, Nat.zero_le _⟩ (fun S9 h => ?_)
      refine jB C [(.aload_n 0, 1, 0)] 46 [(2, .int r5), (0, .ref (b + v0)), (1, .int v1)] [.ref (b + v0)] (by decide +kernel) rfl rfl ?_
      obtain ⟨a10, e_a10, h⟩ := h
      refine jGetR C 49 (by decide +kernel : decode cX6_comparison 46 = .ok (.getfield 33, 3)) rfl t_v0 kX6 10 (by decide) rfl rfl (by decide) wd_286 e_a10 rfl (fun t_a10 => ?_)
      refine jB C [(.iload_n 2, 1, 0), (.iconst 0, 1, 0)] 51 [(2, .int r5), (0, .ref (b + v0)), (1, .int v1)] [.int 0, .int r5, .ref (b + a10)] (by decide +kernel) rfl rfl ?_
      refine jcVN_I C 54 (rest := []) (ok_X8_put t_a10 h) (by decide +kernel : decode cX6_comparison 51 = .ok (.invokevirtual 137, 3)) rfl wn_718 wd_720 wp_51 wd_10 wd_721 ⟨rfl, rfl⟩ hd_X8_put ⟨Nat.le_of_ble_eq_true rfl, Nat.le_of_ble_eq_true rfl⟩ t_a10 kX8 (by decide) rfl rfl rfl (Nat.le_of_ble_eq_true rfl) ⟨Nat.zero_le _, Nat.zero_le _⟩ (fun r12 S11 h => ?_)
      refine jB C [(.pop, 1, 0)] 55 [(2, .int r5), (0, .ref (b + v0)), (1, .int v1)] [] (by decide +kernel) rfl rfl ?_
      exact jRetV C (by decide +kernel : decode cX6_comparison 55 = .ok (.return_, 1)) (Nat.le_refl _) (Nat.le_refl _) ⟨rfl, h⟩
    · have h := it2 h c7
      refine jSub [1] rfl ?_
      exact j_X6_comparison_25 C hE t_v0 h
theorem ok_X6_comparison {G : Gm} {v0 : Nat} {v1 : Int32} {S : St} {Q : St → Prop}  (t_v0 : ok G 5 v0) (h : f_X6_comparison G v0 v1 Q S) : MT yX6_comparison cX6_comparison 3 none rm_X6_comparison 0 0 (fun b => [.ref (b + v0), .int v1]) G S (QV (fun G1 S1 => G1 = G ∧ Q S1)) := MT.ofJ (by decide +kernel) (fun b => [(0, .ref (b + v0)), (1, .int v1)]) (fun b => rfl) (fun b => Nat.le_of_ble_eq_true rfl) (fun l b D cy p e s m below meth c C hE hn => j_X6_comparison C hE t_v0 h)
theorem hd_X6_comparison : yX6_comparison.cls ≠ "java/lang/invoke/MethodHandle" ∧ yX6_comparison.cls ≠ "java/lang/invoke/VarHandle" ∧ (parseMethodDescriptor yX6_comparison.desc).map (fun d => d.parameters.length) = some 1 := by decide +kernel
set_option maxHeartbeats 4000000 in
set_option maxRecDepth 100000 in
theorem j_X6_plain_r_101 {p : Program} {l : Launch} {e : Env} {s : State} {m : MethodId} {args : Array Value} {below : List Frame} {meth : Method} {c : Code} {b : Nat} {D : va_G} {cy : Nat → ClassId} {G : Gm} {R : Nat → Int32 → (St → Prop) → St → Prop} {v0 : Nat} {v2 : Int32} {S : St} {Q : St → Prop} (n : Nat) (hRec : ∀ {v0 : Nat} {v1 : Int32} {Q : St → Prop} {S : St}, ok G 5 v0 → R v0 v1 Q S → MT yX6_test cX6_test 4 none (rm_X6_test n) 0 0 (fun b => [.ref (b + v0), .int v1]) G S (QV (fun G1 S1 => G1 = G ∧ Q S1))) (C : CX p s m args meth c b D cy cX6_plain RX6 4 none) (hE : s.heap.size + 0 ≤ b + G.2.2) (t_v0 : ok G 5 v0) (h : f_X6_plain_r_101 G R v0 v2 Q S) : J p l e (rm_X6_plain n) s m args below meth c b D cy 4 (zV b D cy below args s G Q) 0 0 G S 101 [(0, .ref (b + v0)), (2, .int v2)] [] := by
  unfold f_X6_plain_r_101 at h
  refine jB C [(.iload_n 2, 1, 0)] 102 [(0, .ref (b + v0)), (2, .int v2)] [.int v2] (by decide +kernel) rfl rfl ?_
  refine jIf_eq C 105 116 (by decide +kernel : decode cX6_plain 102 = .ok (.ifCond .eq 14, 3)) rfl rfl (fun c1 => ?_) (fun c1 => ?_)
  · have h := it1 h c1
    exact jRetV C (by decide +kernel : decode cX6_plain 116 = .ok (.return_, 1)) (Nat.le_refl _) (Nat.le_refl _) ⟨rfl, h⟩
  · have h := it2 h c1
    refine jB C [(.aload_n 0, 1, 0)] 106 [(0, .ref (b + v0)), (2, .int v2)] [.ref (b + v0)] (by decide +kernel) rfl rfl ?_
    obtain ⟨a2, e_a2, h⟩ := h
    refine jGetR C 109 (by decide +kernel : decode cX6_plain 106 = .ok (.getfield 33, 3)) rfl t_v0 kX6 10 (by decide) rfl rfl (by decide) wd_286 e_a2 rfl (fun t_a2 => ?_)
    refine jB C [(.bipush 10, 2, 10), (.iconst 0, 1, 0)] 112 [(0, .ref (b + v0)), (2, .int v2)] [.int 0, .int 10, .ref (b + a2)] (by decide +kernel) rfl rfl ?_
    refine jcVN_I C 115 (rest := []) (ok_X8_put t_a2 h) (by decide +kernel : decode cX6_plain 112 = .ok (.invokevirtual 137, 3)) rfl wn_718 wd_720 wp_51 wd_10 wd_721 ⟨rfl, rfl⟩ hd_X8_put ⟨by simp only [rm_X6_plain, rm_X8_put]; omega, by simp only [rm_X6_plain, rm_X8_put]; omega⟩ t_a2 kX8 (by decide) rfl rfl rfl (Nat.le_of_ble_eq_true rfl) ⟨Nat.zero_le _, Nat.zero_le _⟩ (fun r4 S3 h => ?_)
    refine jB C [(.pop, 1, 0)] 116 [(0, .ref (b + v0)), (2, .int v2)] [] (by decide +kernel) rfl rfl ?_
    exact jRetV C (by decide +kernel : decode cX6_plain 116 = .ok (.return_, 1)) (Nat.le_refl _) (Nat.le_refl _) ⟨rfl, h⟩
set_option maxHeartbeats 4000000 in
set_option maxRecDepth 100000 in
theorem j_X6_plain_r_46 {p : Program} {l : Launch} {e : Env} {s : State} {m : MethodId} {args : Array Value} {below : List Frame} {meth : Method} {c : Code} {b : Nat} {D : va_G} {cy : Nat → ClassId} {G : Gm} {R : Nat → Int32 → (St → Prop) → St → Prop} {v0 : Nat} {v1 : Int32} {v2 : Int32} {S : St} {Q : St → Prop} (n : Nat) (hRec : ∀ {v0 : Nat} {v1 : Int32} {Q : St → Prop} {S : St}, ok G 5 v0 → R v0 v1 Q S → MT yX6_test cX6_test 4 none (rm_X6_test n) 0 0 (fun b => [.ref (b + v0), .int v1]) G S (QV (fun G1 S1 => G1 = G ∧ Q S1))) (C : CX p s m args meth c b D cy cX6_plain RX6 4 none) (hE : s.heap.size + 0 ≤ b + G.2.2) (t_v0 : ok G 5 v0) (h : f_X6_plain_r_46 G R v0 v1 v2 Q S) : J p l e (rm_X6_plain n) s m args below meth c b D cy 4 (zV b D cy below args s G Q) 0 0 G S 46 [(0, .ref (b + v0)), (1, .int v1), (2, .int v2)] [] := by
  unfold f_X6_plain_r_46 at h
  refine jB C [(.aload_n 0, 1, 0)] 47 [(0, .ref (b + v0)), (1, .int v1), (2, .int v2)] [.ref (b + v0)] (by decide +kernel) rfl rfl ?_
  refine jcV_I C 50 (rest := []) (ok_X6_here t_v0 h) (by decide +kernel : decode cX6_plain 47 = .ok (.invokevirtual 63, 3)) rfl wd_676 wd_678 wp_42 wd_9 wd_679 ⟨rfl, rfl⟩ hd_X6_here ⟨by simp only [rm_X6_plain, rm_X6_here]; omega, by simp only [rm_X6_plain, rm_X6_here]; omega⟩ t_v0 kX6 (by decide) rfl rfl rfl (Nat.le_of_ble_eq_true rfl) ⟨Nat.zero_le _, Nat.zero_le _⟩ (fun r2 S1 h => ?_)
  refine jB C [(.sipush 140, 3, 140)] 53 [(0, .ref (b + v0)), (1, .int v1), (2, .int v2)] [.int 140, .int r2] (by decide +kernel) rfl rfl ?_
  refine jIcmp_eq C 56 64 (by decide +kernel : decode cX6_plain 53 = .ok (.if_icmp .eq 11, 3)) rfl rfl (fun c3 => ?_) (fun c3 => ?_)
  · have h := it1 h c3
    refine jB C [(.iload_n 1, 1, 0), (.bipush 8, 2, 8)] 67 [(0, .ref (b + v0)), (1, .int v1), (2, .int v2)] [.int 8, .int v1] (by decide +kernel) rfl rfl ?_
    refine jIcmp_lt C 70 77 (by decide +kernel : decode cX6_plain 67 = .ok (.if_icmp .lt 10, 3)) rfl rfl (fun c4 => ?_) (fun c4 => ?_)
    · have h := it1 h c4
      refine jB C [(.aload_n 0, 1, 0), (.dup, 1, 0)] 79 [(0, .ref (b + v0)), (1, .int v1), (2, .int v2)] [.ref (b + v0), .ref (b + v0)] (by decide +kernel) rfl rfl ?_
      refine jGetI C 82 (by decide +kernel : decode cX6_plain 79 = .ok (.getfield 51, 3)) rfl t_v0 kX6 6 (by decide) rfl rfl (by decide) wd_281 ?_
      refine jB C [(.iconst 1, 1, 1), (.iadd, 1, 0)] 84 [(0, .ref (b + v0)), (1, .int v1), (2, .int v2)] [.int ((S1.1 v0 6) + 1), .ref (b + v0)] (by decide +kernel) rfl rfl ?_
      refine jPutI C 87 (by decide +kernel : decode cX6_plain 84 = .ok (.putfield 51, 3)) rfl hE t_v0 kX6 6 (by decide) rfl rfl (by decide) rfl wd_281 rfl rfl rfl ?_
      refine jTopS (fun S5 e_S5 => ?_)
      have h := h S5 e_S5
      refine jB C [(.aload_n 0, 1, 0), (.iload_n 1, 1, 0), (.iconst 1, 1, 1), (.iadd, 1, 0)] 91 [(0, .ref (b + v0)), (1, .int v1), (2, .int v2)] [.int (v1 + 1), .ref (b + v0)] (by decide +kernel) rfl rfl ?_
      refine jcV_V C 94 (rest := []) (hRec t_v0 h) (by decide +kernel : decode cX6_plain 91 = .ok (.invokevirtual 122, 3)) rfl wd_738 wd_740 wp_55 wd_9 wd_741 ⟨rfl, rfl⟩ hd_X6_test ⟨by simp only [rm_X6_plain, rm_X6_test]; omega, by simp only [rm_X6_plain, rm_X6_test]; omega⟩ t_v0 kX6 (by decide) rfl rfl rfl (Nat.le_of_ble_eq_true rfl) ⟨Nat.zero_le _, Nat.zero_le _⟩ (fun S6 h => ?_)
      refine jB C [(.aload_n 0, 1, 0), (.sipush 141, 3, 141)] 98 [(0, .ref (b + v0)), (1, .int v1), (2, .int v2)] [.int 141, .ref (b + v0)] (by decide +kernel) rfl rfl ?_
      refine jcV_V C 101 (rest := []) (ok_X6_expect t_v0 h) (by decide +kernel : decode cX6_plain 98 = .ok (.invokevirtual 125, 3)) rfl wd_722 wd_724 wp_52 wd_9 wd_725 ⟨rfl, rfl⟩ hd_X6_expect ⟨by simp only [rm_X6_plain, rm_X6_expect]; omega, by simp only [rm_X6_plain, rm_X6_expect]; omega⟩ t_v0 kX6 (by decide) rfl rfl rfl (Nat.le_of_ble_eq_true rfl) ⟨Nat.zero_le _, Nat.zero_le _⟩ (fun S7 h => ?_)
      refine jSub [0, 2] rfl ?_
      exact j_X6_plain_r_101 n hRec C hE t_v0 h
    · have h := it2 h c4
      refine jB C [(.aload_n 0, 1, 0)] 71 [(0, .ref (b + v0)), (1, .int v1), (2, .int v2)] [.ref (b + v0)] (by decide +kernel) rfl rfl ?_
      refine jcV_V C 74 (rest := []) (ok_X6_fail t_v0 h) (by decide +kernel : decode cX6_plain 71 = .ok (.invokevirtual 67, 3)) rfl wd_680 wd_682 wp_43 wd_9 wd_683 ⟨rfl, rfl⟩ hd_X6_fail ⟨by simp only [rm_X6_plain, rm_X6_fail]; omega, by simp only [rm_X6_plain, rm_X6_fail]; omega⟩ t_v0 kX6 (by decide) rfl rfl rfl (Nat.le_of_ble_eq_true rfl) ⟨Nat.zero_le _, Nat.zero_le _⟩ (fun S8 h => ?_)
      refine jGoto C 101 (by decide +kernel : decode cX6_plain 74 = .ok (.goto 27, 3)) rfl ?_
      refine jSub [0, 2] rfl ?_
      exact j_X6_plain_r_101 n hRec C hE t_v0 h
  · have h := it2 h c3
    refine jB C [(.aload_n 0, 1, 0), (.iload_n 1, 1, 0)] 58 [(0, .ref (b + v0)), (1, .int v1), (2, .int v2)] [.int v1, .ref (b + v0)] (by decide +kernel) rfl rfl ?_
    refine jcV_V C 61 (rest := []) (ok_X6_comparison t_v0 h) (by decide +kernel : decode cX6_plain 58 = .ok (.invokevirtual 146, 3)) rfl wd_750 wd_752 wp_58 wd_9 wd_753 ⟨rfl, rfl⟩ hd_X6_comparison ⟨by simp only [rm_X6_plain, rm_X6_comparison]; omega, by simp only [rm_X6_plain, rm_X6_comparison]; omega⟩ t_v0 kX6 (by decide) rfl rfl rfl (Nat.le_of_ble_eq_true rfl) ⟨Nat.zero_le _, Nat.zero_le _⟩ (fun S9 h => ?_)
    refine jGoto C 101 (by decide +kernel : decode cX6_plain 61 = .ok (.goto 40, 3)) rfl ?_
    refine jSub [0, 2] rfl ?_
    exact j_X6_plain_r_101 n hRec C hE t_v0 h
set_option maxHeartbeats 4000000 in
set_option maxRecDepth 100000 in
theorem j_X6_plain_r_4_n {p : Program} {l : Launch} {e : Env} {s : State} {m : MethodId} {args : Array Value} {below : List Frame} {meth : Method} {c : Code} {b : Nat} {D : va_G} {cy : Nat → ClassId} {G : Gm} {R : Nat → Int32 → (St → Prop) → St → Prop} {v0 : Nat} {v1 : Int32} {Q : St → Prop} (n : Nat) (hRec : ∀ {v0 : Nat} {v1 : Int32} {Q : St → Prop} {S : St}, ok G 5 v0 → R v0 v1 Q S → MT yX6_test cX6_test 4 none (rm_X6_test n) 0 0 (fun b => [.ref (b + v0), .int v1]) G S (QV (fun G1 S1 => G1 = G ∧ Q S1))) (C : CX p s m args meth c b D cy cX6_plain RX6 4 none) (hE : s.heap.size + 0 ≤ b + G.2.2) (t_v0 : ok G 5 v0) : ∀ k (v2 : Int32) (v3 : Int32) S, f_X6_plain_r_4_n G R v0 v1 Q k v2 v3 S → J p l e (rm_X6_plain n) s m args below meth c b D cy 4 (zV b D cy below args s G Q) 0 0 G S 4 [(0, .ref (b + v0)), (1, .int v1), (2, .int v2), (3, .int v3)] [] := by
  intro k
  induction k with
  | zero => intro v2 v3 S h; exact h.elim
  | succ k ih =>
    intro v2 v3 S h
    unfold f_X6_plain_r_4_n at h
    refine jB C [(.iload_n 3, 1, 0), (.sipush 400, 3, 400)] 8 [(0, .ref (b + v0)), (1, .int v1), (2, .int v2), (3, .int v3)] [.int 400, .int v3] (by decide +kernel) rfl rfl ?_
    refine jIcmp_ge C 11 46 (by decide +kernel : decode cX6_plain 8 = .ok (.if_icmp .ge 38, 3)) rfl rfl (fun c1 => ?_) (fun c1 => ?_)
    · have h := it1 h c1
      refine jSub [0, 1, 2] rfl ?_
      exact j_X6_plain_r_46 n hRec C hE t_v0 h
    · have h := it2 h c1
      refine jB C [(.aload_n 0, 1, 0)] 12 [(0, .ref (b + v0)), (1, .int v1), (2, .int v2), (3, .int v3)] [.ref (b + v0)] (by decide +kernel) rfl rfl ?_
      refine jcV_I C 15 (rest := []) (ok_X6_here t_v0 h) (by decide +kernel : decode cX6_plain 12 = .ok (.invokevirtual 63, 3)) rfl wd_676 wd_678 wp_42 wd_9 wd_679 ⟨rfl, rfl⟩ hd_X6_here ⟨by simp only [rm_X6_plain, rm_X6_here]; omega, by simp only [rm_X6_plain, rm_X6_here]; omega⟩ t_v0 kX6 (by decide) rfl rfl rfl (Nat.le_of_ble_eq_true rfl) ⟨Nat.zero_le _, Nat.zero_le _⟩ (fun r3 S2 h => ?_)
      refine jB C [(.bipush 15, 2, 15)] 17 [(0, .ref (b + v0)), (1, .int v1), (2, .int v2), (3, .int v3)] [.int 15, .int r3] (by decide +kernel) rfl rfl ?_
      refine jIcmp_ne C 20 46 (by decide +kernel : decode cX6_plain 17 = .ok (.if_icmp .ne 29, 3)) rfl rfl (fun c4 => ?_) (fun c4 => ?_)
      · have h := it2 h c4
        refine jSub [0, 1, 2] rfl ?_
        exact j_X6_plain_r_46 n hRec C hE t_v0 h
      · have h := it1 h c4
        refine jB C [(.aload_n 0, 1, 0), (.dup, 1, 0)] 22 [(0, .ref (b + v0)), (1, .int v1), (2, .int v2), (3, .int v3)] [.ref (b + v0), .ref (b + v0)] (by decide +kernel) rfl rfl ?_
        refine jGetI C 25 (by decide +kernel : decode cX6_plain 22 = .ok (.getfield 51, 3)) rfl t_v0 kX6 6 (by decide) rfl rfl (by decide) wd_281 ?_
        refine jB C [(.iconst 1, 1, 1), (.iadd, 1, 0)] 27 [(0, .ref (b + v0)), (1, .int v1), (2, .int v2), (3, .int v3)] [.int ((S2.1 v0 6) + 1), .ref (b + v0)] (by decide +kernel) rfl rfl ?_
        refine jPutI C 30 (by decide +kernel : decode cX6_plain 27 = .ok (.putfield 51, 3)) rfl hE t_v0 kX6 6 (by decide) rfl rfl (by decide) rfl wd_281 rfl rfl rfl ?_
        refine jTopS (fun S5 e_S5 => ?_)
        have h := h S5 e_S5
        refine jB C [(.iload_n 2, 1, 0)] 31 [(0, .ref (b + v0)), (1, .int v1), (2, .int v2), (3, .int v3)] [.int v2] (by decide +kernel) rfl rfl ?_
        refine jIf_ne C 34 38 (by decide +kernel : decode cX6_plain 31 = .ok (.ifCond .ne 7, 3)) rfl rfl (fun c6 => ?_) (fun c6 => ?_)
        · have h := it2 h c6
          refine jB C [(.iconst 0, 1, 0), (.istore_n 2, 1, 0), (.iinc 3 1, 3, 1)] 43 [(3, .int (v3 + 1)), (2, .int 0), (0, .ref (b + v0)), (1, .int v1)] [] (by decide +kernel) rfl rfl ?_
          refine jGoto C 4 (by decide +kernel : decode cX6_plain 43 = .ok (.goto (-39), 3)) rfl ?_
          refine jSub [2, 3, 1, 0] rfl ?_
          exact ih 0 (v3 + 1) S5 h
        · have h := it1 h c6
          refine jB C [(.iconst 1, 1, 1)] 35 [(0, .ref (b + v0)), (1, .int v1), (2, .int v2), (3, .int v3)] [.int 1] (by decide +kernel) rfl rfl ?_
          refine jGoto C 39 (by decide +kernel : decode cX6_plain 35 = .ok (.goto 4, 3)) rfl ?_
          refine jB C [(.istore_n 2, 1, 0), (.iinc 3 1, 3, 1)] 43 [(3, .int (v3 + 1)), (2, .int 1), (0, .ref (b + v0)), (1, .int v1)] [] (by decide +kernel) rfl rfl ?_
          refine jGoto C 4 (by decide +kernel : decode cX6_plain 43 = .ok (.goto (-39), 3)) rfl ?_
          refine jSub [2, 3, 1, 0] rfl ?_
          exact ih 1 (v3 + 1) S5 h
theorem j_X6_plain_r_4 {p : Program} {l : Launch} {e : Env} {s : State} {m : MethodId} {args : Array Value} {below : List Frame} {meth : Method} {c : Code} {b : Nat} {D : va_G} {cy : Nat → ClassId} {G : Gm} {R : Nat → Int32 → (St → Prop) → St → Prop} {v0 : Nat} {v1 : Int32} {v2 : Int32} {v3 : Int32} {S : St} {Q : St → Prop} (n : Nat) (hRec : ∀ {v0 : Nat} {v1 : Int32} {Q : St → Prop} {S : St}, ok G 5 v0 → R v0 v1 Q S → MT yX6_test cX6_test 4 none (rm_X6_test n) 0 0 (fun b => [.ref (b + v0), .int v1]) G S (QV (fun G1 S1 => G1 = G ∧ Q S1))) (C : CX p s m args meth c b D cy cX6_plain RX6 4 none) (hE : s.heap.size + 0 ≤ b + G.2.2) (t_v0 : ok G 5 v0) (h : f_X6_plain_r_4 G R v0 v1 Q v2 v3 S) : J p l e (rm_X6_plain n) s m args below meth c b D cy 4 (zV b D cy below args s G Q) 0 0 G S 4 [(0, .ref (b + v0)), (1, .int v1), (2, .int v2), (3, .int v3)] [] := by
  obtain ⟨k, h⟩ := h
  exact j_X6_plain_r_4_n n hRec C hE t_v0 k v2 v3 S h
set_option maxHeartbeats 4000000 in
set_option maxRecDepth 100000 in
theorem j_X6_plain_r {p : Program} {l : Launch} {e : Env} {s : State} {m : MethodId} {args : Array Value} {below : List Frame} {meth : Method} {c : Code} {b : Nat} {D : va_G} {cy : Nat → ClassId} {G : Gm} {R : Nat → Int32 → (St → Prop) → St → Prop} {v0 : Nat} {v1 : Int32} {S : St} {Q : St → Prop} (n : Nat) (hRec : ∀ {v0 : Nat} {v1 : Int32} {Q : St → Prop} {S : St}, ok G 5 v0 → R v0 v1 Q S → MT yX6_test cX6_test 4 none (rm_X6_test n) 0 0 (fun b => [.ref (b + v0), .int v1]) G S (QV (fun G1 S1 => G1 = G ∧ Q S1))) (C : CX p s m args meth c b D cy cX6_plain RX6 4 none) (hE : s.heap.size + 0 ≤ b + G.2.2) (t_v0 : ok G 5 v0) (h : f_X6_plain_r G R v0 v1 Q S) : J p l e (rm_X6_plain n) s m args below meth c b D cy 4 (zV b D cy below args s G Q) 0 0 G S 0 [(0, .ref (b + v0)), (1, .int v1)] [] := by
  unfold f_X6_plain_r at h
  refine jB C [(.iconst 0, 1, 0), (.istore_n 2, 1, 0), (.iconst 0, 1, 0), (.istore_n 3, 1, 0)] 4 [(3, .int 0), (2, .int 0), (0, .ref (b + v0)), (1, .int v1)] [] (by decide +kernel) rfl rfl ?_
  refine jSub [2, 3, 1, 0] rfl ?_
  exact j_X6_plain_r_4 n hRec C hE t_v0 h
theorem ok_X6_plain_r {G : Gm} {v0 : Nat} {v1 : Int32} {S : St} {Q : St → Prop}  {R : Nat → Int32 → (St → Prop) → St → Prop} (n : Nat) (hRec : ∀ {v0 : Nat} {v1 : Int32} {Q : St → Prop} {S : St}, ok G 5 v0 → R v0 v1 Q S → MT yX6_test cX6_test 4 none (rm_X6_test n) 0 0 (fun b => [.ref (b + v0), .int v1]) G S (QV (fun G1 S1 => G1 = G ∧ Q S1)))  (t_v0 : ok G 5 v0) (h : f_X6_plain_r G R v0 v1 Q S) : MT yX6_plain cX6_plain 4 none (rm_X6_plain n) 0 0 (fun b => [.ref (b + v0), .int v1]) G S (QV (fun G1 S1 => G1 = G ∧ Q S1)) := MT.ofJ (by decide +kernel) (fun b => [(0, .ref (b + v0)), (1, .int v1)]) (fun b => rfl) (fun b => Nat.le_of_ble_eq_true rfl) (fun l b D cy p e s m below meth c C hE hn => j_X6_plain_r n hRec C hE t_v0 h)
theorem hd_X6_plain : yX6_plain.cls ≠ "java/lang/invoke/MethodHandle" ∧ yX6_plain.cls ≠ "java/lang/invoke/VarHandle" ∧ (parseMethodDescriptor yX6_plain.desc).map (fun d => d.parameters.length) = some 1 := by decide +kernel
abbrev rm_X8_aim : Room := { frames := 0, cells := 0, slots := 0, locals := 0 }
set_option maxHeartbeats 4000000 in
set_option maxRecDepth 100000 in
theorem j_X8_aim {p : Program} {l : Launch} {e : Env} {s : State} {m : MethodId} {args : Array Value} {below : List Frame} {meth : Method} {c : Code} {b : Nat} {D : va_G} {cy : Nat → ClassId} {G : Gm} {v0 : Nat} {v1 : Int32} {S : St} {Q : St → Prop} (C : CX p s m args meth c b D cy cX8_aim RX8 2 none) (hE : s.heap.size + 0 ≤ b + G.2.2) (t_v0 : ok G 7 v0) (h : f_X8_aim G v0 v1 Q S) : J p l e rm_X8_aim s m args below meth c b D cy 2 (zV b D cy below args s G Q) 0 0 G S 0 [(0, .ref (b + v0)), (1, .int v1)] [] := by
  unfold f_X8_aim at h
  refine jB C [(.iload_n 1, 1, 0)] 1 [(0, .ref (b + v0)), (1, .int v1)] [.int v1] (by decide +kernel) rfl rfl ?_
  refine jIf_lt C 4 27 (by decide +kernel : decode cX8_aim 1 = .ok (.ifCond .lt 26, 3)) rfl rfl (fun c1 => ?_) (fun c1 => ?_)
  · have h := it1 h c1
    exact jRetV C (by decide +kernel : decode cX8_aim 27 = .ok (.return_, 1)) (Nat.le_refl _) (Nat.le_refl _) ⟨rfl, h⟩
  · have h := it2 h c1
    refine jB C [(.iload_n 1, 1, 0), (.iconst 1, 1, 1), (.iadd, 1, 0), (.aload_n 0, 1, 0)] 8 [(0, .ref (b + v0)), (1, .int v1)] [.ref (b + v0), .int (v1 + 1)] (by decide +kernel) rfl rfl ?_
    obtain ⟨a2, e_a2, h⟩ := h
    refine jGetR C 11 (by decide +kernel : decode cX8_aim 8 = .ok (.getfield 28, 3)) rfl t_v0 kX8 4 (by decide) rfl rfl (by decide) wd_253 e_a2 rfl (fun t_a2 => ?_)
    refine jAlen11 C 12 (by decide +kernel : decode cX8_aim 11 = .ok (.arraylength, 1)) rfl t_a2 ?_
    refine jIcmp_ge C 15 27 (by decide +kernel : decode cX8_aim 12 = .ok (.if_icmp .ge 15, 3)) rfl rfl (fun c3 => ?_) (fun c3 => ?_)
    · have h := it1 h c3
      exact jRetV C (by decide +kernel : decode cX8_aim 27 = .ok (.return_, 1)) (Nat.le_refl _) (Nat.le_refl _) ⟨rfl, h⟩
    · have h := it2 h c3
      refine jB C [(.aload_n 0, 1, 0)] 16 [(0, .ref (b + v0)), (1, .int v1)] [.ref (b + v0)] (by decide +kernel) rfl rfl ?_
      obtain ⟨a4, e_a4, h⟩ := h
      refine jGetR C 19 (by decide +kernel : decode cX8_aim 16 = .ok (.getfield 28, 3)) rfl t_v0 kX8 4 (by decide) rfl rfl (by decide) wd_253 e_a4 rfl (fun t_a4 => ?_)
      refine jB C [(.iload_n 1, 1, 0), (.iconst 1, 1, 1), (.iadd, 1, 0), (.aload_n 0, 1, 0)] 23 [(0, .ref (b + v0)), (1, .int v1)] [.ref (b + v0), .int (v1 + 1), .ref (b + a4)] (by decide +kernel) rfl rfl ?_
      refine jGetI C 26 (by decide +kernel : decode cX8_aim 23 = .ok (.getfield 35, 3)) rfl t_v0 kX8 6 (by decide) rfl rfl (by decide) wd_258 ?_
      obtain ⟨y5, h⟩ := h
      refine jIast C 27 (by decide +kernel : decode cX8_aim 26 = .ok (.iastore, 1)) rfl hE t_a4 y5 ?_
      refine jTopS (fun S6 e_S6 => ?_)
      have h := h S6 e_S6
      exact jRetV C (by decide +kernel : decode cX8_aim 27 = .ok (.return_, 1)) (Nat.le_refl _) (Nat.le_refl _) ⟨rfl, h⟩
theorem ok_X8_aim {G : Gm} {v0 : Nat} {v1 : Int32} {S : St} {Q : St → Prop}  (t_v0 : ok G 7 v0) (h : f_X8_aim G v0 v1 Q S) : MT yX8_aim cX8_aim 2 none rm_X8_aim 0 0 (fun b => [.ref (b + v0), .int v1]) G S (QV (fun G1 S1 => G1 = G ∧ Q S1)) := MT.ofJ (by decide +kernel) (fun b => [(0, .ref (b + v0)), (1, .int v1)]) (fun b => rfl) (fun b => Nat.le_of_ble_eq_true rfl) (fun l b D cy p e s m below meth c C hE hn => j_X8_aim C hE t_v0 h)
theorem hd_X8_aim : yX8_aim.cls ≠ "java/lang/invoke/MethodHandle" ∧ yX8_aim.cls ≠ "java/lang/invoke/VarHandle" ∧ (parseMethodDescriptor yX8_aim.desc).map (fun d => d.parameters.length) = some 1 := by decide +kernel
set_option maxHeartbeats 4000000 in
set_option maxRecDepth 100000 in
theorem j_X6_both_r_7_n {p : Program} {l : Launch} {e : Env} {s : State} {m : MethodId} {args : Array Value} {below : List Frame} {meth : Method} {c : Code} {b : Nat} {D : va_G} {cy : Nat → ClassId} {G : Gm} {R : Nat → Int32 → (St → Prop) → St → Prop} {v0 : Nat} {v1 : Int32} {Q : St → Prop} (n : Nat) (hRec : ∀ {v0 : Nat} {v1 : Int32} {Q : St → Prop} {S : St}, ok G 5 v0 → R v0 v1 Q S → MT yX6_test cX6_test 4 none (rm_X6_test n) 0 0 (fun b => [.ref (b + v0), .int v1]) G S (QV (fun G1 S1 => G1 = G ∧ Q S1))) (C : CX p s m args meth c b D cy cX6_both RX6 4 none) (hE : s.heap.size + 0 ≤ b + G.2.2) (t_v0 : ok G 5 v0) : ∀ k (v2 : Int32) S, f_X6_both_r_7_n G R v0 v1 Q k v2 S → J p l e (rm_X6_both n) s m args below meth c b D cy 4 (zV b D cy below args s G Q) 0 0 G S 7 [(0, .ref (b + v0)), (1, .int v1), (2, .int v2)] [] := by
  intro k
  induction k with
  | zero => intro v2 S h; exact h.elim
  | succ k ih =>
    intro v2 S h
    unfold f_X6_both_r_7_n at h
    refine jB C [(.iload_n 2, 1, 0), (.sipush 400, 3, 400)] 11 [(0, .ref (b + v0)), (1, .int v1), (2, .int v2)] [.int 400, .int v2] (by decide +kernel) rfl rfl ?_
    refine jIcmp_ge C 14 63 (by decide +kernel : decode cX6_both 11 = .ok (.if_icmp .ge 52, 3)) rfl rfl (fun c1 => ?_) (fun c1 => ?_)
    · have h := it1 h c1
      exact jRetV C (by decide +kernel : decode cX6_both 63 = .ok (.return_, 1)) (Nat.le_refl _) (Nat.le_refl _) ⟨rfl, h⟩
    · have h := it2 h c1
      refine jB C [(.aload_n 0, 1, 0)] 15 [(0, .ref (b + v0)), (1, .int v1), (2, .int v2)] [.ref (b + v0)] (by decide +kernel) rfl rfl ?_
      refine jcV_I C 18 (rest := []) (ok_X6_here t_v0 h) (by decide +kernel : decode cX6_both 15 = .ok (.invokevirtual 63, 3)) rfl wd_676 wd_678 wp_42 wd_9 wd_679 ⟨rfl, rfl⟩ hd_X6_here ⟨by simp only [rm_X6_both, rm_X6_here]; omega, by simp only [rm_X6_both, rm_X6_here]; omega⟩ t_v0 kX6 (by decide) rfl rfl rfl (Nat.le_of_ble_eq_true rfl) ⟨Nat.zero_le _, Nat.zero_le _⟩ (fun r3 S2 h => ?_)
      refine jB C [(.bipush 14, 2, 14)] 20 [(0, .ref (b + v0)), (1, .int v1), (2, .int v2)] [.int 14, .int r3] (by decide +kernel) rfl rfl ?_
      refine jIcmp_ne C 23 63 (by decide +kernel : decode cX6_both 20 = .ok (.if_icmp .ne 43, 3)) rfl rfl (fun c4 => ?_) (fun c4 => ?_)
      · have h := it2 h c4
        exact jRetV C (by decide +kernel : decode cX6_both 63 = .ok (.return_, 1)) (Nat.le_refl _) (Nat.le_refl _) ⟨rfl, h⟩
      · have h := it1 h c4
        refine jB C [(.aload_n 0, 1, 0), (.dup, 1, 0)] 25 [(0, .ref (b + v0)), (1, .int v1), (2, .int v2)] [.ref (b + v0), .ref (b + v0)] (by decide +kernel) rfl rfl ?_
        refine jGetI C 28 (by decide +kernel : decode cX6_both 25 = .ok (.getfield 51, 3)) rfl t_v0 kX6 6 (by decide) rfl rfl (by decide) wd_281 ?_
        refine jB C [(.iconst 1, 1, 1), (.iadd, 1, 0)] 30 [(0, .ref (b + v0)), (1, .int v1), (2, .int v2)] [.int ((S2.1 v0 6) + 1), .ref (b + v0)] (by decide +kernel) rfl rfl ?_
        refine jPutI C 33 (by decide +kernel : decode cX6_both 30 = .ok (.putfield 51, 3)) rfl hE t_v0 kX6 6 (by decide) rfl rfl (by decide) rfl wd_281 rfl rfl rfl ?_
        refine jTopS (fun S5 e_S5 => ?_)
        have h := h S5 e_S5
        refine jB C [(.aload_n 0, 1, 0)] 34 [(0, .ref (b + v0)), (1, .int v1), (2, .int v2)] [.ref (b + v0)] (by decide +kernel) rfl rfl ?_
        obtain ⟨a6, e_a6, h⟩ := h
        refine jGetR C 37 (by decide +kernel : decode cX6_both 34 = .ok (.getfield 33, 3)) rfl t_v0 kX6 10 (by decide) rfl rfl (by decide) wd_286 e_a6 rfl (fun t_a6 => ?_)
        refine jB C [(.bipush 12, 2, 12), (.iconst 0, 1, 0)] 40 [(0, .ref (b + v0)), (1, .int v1), (2, .int v2)] [.int 0, .int 12, .ref (b + a6)] (by decide +kernel) rfl rfl ?_
        refine jcVN_I C 43 (rest := []) (ok_X8_put t_a6 h) (by decide +kernel : decode cX6_both 40 = .ok (.invokevirtual 137, 3)) rfl wn_718 wd_720 wp_51 wd_10 wd_721 ⟨rfl, rfl⟩ hd_X8_put ⟨by simp only [rm_X6_both, rm_X8_put]; omega, by simp only [rm_X6_both, rm_X8_put]; omega⟩ t_a6 kX8 (by decide) rfl rfl rfl (Nat.le_of_ble_eq_true rfl) ⟨Nat.zero_le _, Nat.zero_le _⟩ (fun r8 S7 h => ?_)
        refine jB C [(.istore_n 3, 1, 0), (.aload_n 0, 1, 0), (.iload_n 1, 1, 0)] 46 [(3, .int r8), (0, .ref (b + v0)), (1, .int v1), (2, .int v2)] [.int v1, .ref (b + v0)] (by decide +kernel) rfl rfl ?_
        refine jcV_V C 49 (rest := []) (ok_X6_plain_r n hRec t_v0 h) (by decide +kernel : decode cX6_both 46 = .ok (.invokevirtual 143, 3)) rfl wd_746 wd_748 wp_57 wd_9 wd_749 ⟨rfl, rfl⟩ hd_X6_plain ⟨by simp only [rm_X6_both, rm_X6_plain]; omega, by simp only [rm_X6_both, rm_X6_plain]; omega⟩ t_v0 kX6 (by decide) rfl rfl rfl (Nat.le_of_ble_eq_true rfl) ⟨Nat.zero_le _, Nat.zero_le _⟩ (fun S9 h => ?_)
        refine jB C [(.aload_n 0, 1, 0)] 50 [(3, .int r8), (0, .ref (b + v0)), (1, .int v1), (2, .int v2)] [.ref (b + v0)] (by decide +kernel) rfl rfl ?_
        obtain ⟨a10, e_a10, h⟩ := h
        refine jGetR C 53 (by decide +kernel : decode cX6_both 50 = .ok (.getfield 33, 3)) rfl t_v0 kX6 10 (by decide) rfl rfl (by decide) wd_286 e_a10 rfl (fun t_a10 => ?_)
        refine jB C [(.iload_n 3, 1, 0)] 54 [(3, .int r8), (0, .ref (b + v0)), (1, .int v1), (2, .int v2)] [.int r8, .ref (b + a10)] (by decide +kernel) rfl rfl ?_
        refine jcVN_V C 57 (rest := []) (ok_X8_aim t_a10 h) (by decide +kernel : decode cX6_both 54 = .ok (.invokevirtual 140, 3)) rfl wn_754 wd_756 wp_59 wd_10 wd_757 ⟨rfl, rfl⟩ hd_X8_aim ⟨by simp only [rm_X6_both, rm_X8_aim]; omega, by simp only [rm_X6_both, rm_X8_aim]; omega⟩ t_a10 kX8 (by decide) rfl rfl rfl (Nat.le_of_ble_eq_true rfl) ⟨Nat.zero_le _, Nat.zero_le _⟩ (fun S11 h => ?_)
        refine jB C [(.iinc 2 1, 3, 1)] 60 [(2, .int (v2 + 1)), (3, .int r8), (0, .ref (b + v0)), (1, .int v1)] [] (by decide +kernel) rfl rfl ?_
        refine jGoto C 7 (by decide +kernel : decode cX6_both 60 = .ok (.goto (-53), 3)) rfl ?_
        refine jSub [2, 3, 0] rfl ?_
        exact ih (v2 + 1) S11 h
theorem j_X6_both_r_7 {p : Program} {l : Launch} {e : Env} {s : State} {m : MethodId} {args : Array Value} {below : List Frame} {meth : Method} {c : Code} {b : Nat} {D : va_G} {cy : Nat → ClassId} {G : Gm} {R : Nat → Int32 → (St → Prop) → St → Prop} {v0 : Nat} {v1 : Int32} {v2 : Int32} {S : St} {Q : St → Prop} (n : Nat) (hRec : ∀ {v0 : Nat} {v1 : Int32} {Q : St → Prop} {S : St}, ok G 5 v0 → R v0 v1 Q S → MT yX6_test cX6_test 4 none (rm_X6_test n) 0 0 (fun b => [.ref (b + v0), .int v1]) G S (QV (fun G1 S1 => G1 = G ∧ Q S1))) (C : CX p s m args meth c b D cy cX6_both RX6 4 none) (hE : s.heap.size + 0 ≤ b + G.2.2) (t_v0 : ok G 5 v0) (h : f_X6_both_r_7 G R v0 v1 Q v2 S) : J p l e (rm_X6_both n) s m args below meth c b D cy 4 (zV b D cy below args s G Q) 0 0 G S 7 [(0, .ref (b + v0)), (1, .int v1), (2, .int v2)] [] := by
  obtain ⟨k, h⟩ := h
  exact j_X6_both_r_7_n n hRec C hE t_v0 k v2 S h
set_option maxHeartbeats 4000000 in
set_option maxRecDepth 100000 in
theorem j_X6_both_r {p : Program} {l : Launch} {e : Env} {s : State} {m : MethodId} {args : Array Value} {below : List Frame} {meth : Method} {c : Code} {b : Nat} {D : va_G} {cy : Nat → ClassId} {G : Gm} {R : Nat → Int32 → (St → Prop) → St → Prop} {v0 : Nat} {v1 : Int32} {S : St} {Q : St → Prop} (n : Nat) (hRec : ∀ {v0 : Nat} {v1 : Int32} {Q : St → Prop} {S : St}, ok G 5 v0 → R v0 v1 Q S → MT yX6_test cX6_test 4 none (rm_X6_test n) 0 0 (fun b => [.ref (b + v0), .int v1]) G S (QV (fun G1 S1 => G1 = G ∧ Q S1))) (C : CX p s m args meth c b D cy cX6_both RX6 4 none) (hE : s.heap.size + 0 ≤ b + G.2.2) (t_v0 : ok G 5 v0) (h : f_X6_both_r G R v0 v1 Q S) : J p l e (rm_X6_both n) s m args below meth c b D cy 4 (zV b D cy below args s G Q) 0 0 G S 0 [(0, .ref (b + v0)), (1, .int v1)] [] := by
  unfold f_X6_both_r at h
  refine jB C [(.aload_n 0, 1, 0), (.iload_n 1, 1, 0)] 2 [(0, .ref (b + v0)), (1, .int v1)] [.int v1, .ref (b + v0)] (by decide +kernel) rfl rfl ?_
  refine jcV_V C 5 (rest := []) (ok_X6_plain_r n hRec t_v0 h) (by decide +kernel : decode cX6_both 2 = .ok (.invokevirtual 143, 3)) rfl wd_746 wd_748 wp_57 wd_9 wd_749 ⟨rfl, rfl⟩ hd_X6_plain ⟨by simp only [rm_X6_both, rm_X6_plain]; omega, by simp only [rm_X6_both, rm_X6_plain]; omega⟩ t_v0 kX6 (by decide) rfl rfl rfl (Nat.le_of_ble_eq_true rfl) ⟨Nat.zero_le _, Nat.zero_le _⟩ (fun S1 h => ?_)
  refine jB C [(.iconst 0, 1, 0), (.istore_n 2, 1, 0)] 7 [(2, .int 0), (0, .ref (b + v0)), (1, .int v1)] [] (by decide +kernel) rfl rfl ?_
  refine jSub [1, 2, 0] rfl ?_
  exact j_X6_both_r_7 n hRec C hE t_v0 h
theorem ok_X6_both_r {G : Gm} {v0 : Nat} {v1 : Int32} {S : St} {Q : St → Prop}  {R : Nat → Int32 → (St → Prop) → St → Prop} (n : Nat) (hRec : ∀ {v0 : Nat} {v1 : Int32} {Q : St → Prop} {S : St}, ok G 5 v0 → R v0 v1 Q S → MT yX6_test cX6_test 4 none (rm_X6_test n) 0 0 (fun b => [.ref (b + v0), .int v1]) G S (QV (fun G1 S1 => G1 = G ∧ Q S1)))  (t_v0 : ok G 5 v0) (h : f_X6_both_r G R v0 v1 Q S) : MT yX6_both cX6_both 4 none (rm_X6_both n) 0 0 (fun b => [.ref (b + v0), .int v1]) G S (QV (fun G1 S1 => G1 = G ∧ Q S1)) := MT.ofJ (by decide +kernel) (fun b => [(0, .ref (b + v0)), (1, .int v1)]) (fun b => rfl) (fun b => Nat.le_of_ble_eq_true rfl) (fun l b D cy p e s m below meth c C hE hn => j_X6_both_r n hRec C hE t_v0 h)
theorem hd_X6_both : yX6_both.cls ≠ "java/lang/invoke/MethodHandle" ∧ yX6_both.cls ≠ "java/lang/invoke/VarHandle" ∧ (parseMethodDescriptor yX6_both.desc).map (fun d => d.parameters.length) = some 1 := by decide +kernel
set_option maxHeartbeats 4000000 in
set_option maxRecDepth 100000 in
theorem j_X6_test_r_7_n {p : Program} {l : Launch} {e : Env} {s : State} {m : MethodId} {args : Array Value} {below : List Frame} {meth : Method} {c : Code} {b : Nat} {D : va_G} {cy : Nat → ClassId} {G : Gm} {R : Nat → Int32 → (St → Prop) → St → Prop} {v0 : Nat} {v1 : Int32} {Q : St → Prop} (n : Nat) (hRec : ∀ {v0 : Nat} {v1 : Int32} {Q : St → Prop} {S : St}, ok G 5 v0 → R v0 v1 Q S → MT yX6_test cX6_test 4 none (rm_X6_test n) 0 0 (fun b => [.ref (b + v0), .int v1]) G S (QV (fun G1 S1 => G1 = G ∧ Q S1))) (C : CX p s m args meth c b D cy cX6_test RX6 4 none) (hE : s.heap.size + 0 ≤ b + G.2.2) (t_v0 : ok G 5 v0) : ∀ k (v2 : Int32) S, f_X6_test_r_7_n G R v0 v1 Q k v2 S → J p l e (rm_X6_test (n + 1)) s m args below meth c b D cy 4 (zV b D cy below args s G Q) 0 0 G S 7 [(0, .ref (b + v0)), (1, .int v1), (2, .int v2)] [] := by
  intro k
  induction k with
  | zero => intro v2 S h; exact h.elim
  | succ k ih =>
    intro v2 S h
    unfold f_X6_test_r_7_n at h
    refine jB C [(.iload_n 2, 1, 0), (.sipush 400, 3, 400)] 11 [(0, .ref (b + v0)), (1, .int v1), (2, .int v2)] [.int 400, .int v2] (by decide +kernel) rfl rfl ?_
    refine jIcmp_ge C 14 63 (by decide +kernel : decode cX6_test 11 = .ok (.if_icmp .ge 52, 3)) rfl rfl (fun c1 => ?_) (fun c1 => ?_)
    · have h := it1 h c1
      exact jRetV C (by decide +kernel : decode cX6_test 63 = .ok (.return_, 1)) (Nat.le_refl _) (Nat.le_refl _) ⟨rfl, h⟩
    · have h := it2 h c1
      refine jB C [(.aload_n 0, 1, 0)] 15 [(0, .ref (b + v0)), (1, .int v1), (2, .int v2)] [.ref (b + v0)] (by decide +kernel) rfl rfl ?_
      refine jcV_I C 18 (rest := []) (ok_X6_here t_v0 h) (by decide +kernel : decode cX6_test 15 = .ok (.invokevirtual 63, 3)) rfl wd_676 wd_678 wp_42 wd_9 wd_679 ⟨rfl, rfl⟩ hd_X6_here ⟨by simp only [rm_X6_test, rm_X6_here]; omega, by simp only [rm_X6_test, rm_X6_here]; omega⟩ t_v0 kX6 (by decide) rfl rfl rfl (Nat.le_of_ble_eq_true rfl) ⟨Nat.zero_le _, Nat.zero_le _⟩ (fun r3 S2 h => ?_)
      refine jB C [(.bipush 13, 2, 13)] 20 [(0, .ref (b + v0)), (1, .int v1), (2, .int v2)] [.int 13, .int r3] (by decide +kernel) rfl rfl ?_
      refine jIcmp_ne C 23 63 (by decide +kernel : decode cX6_test 20 = .ok (.if_icmp .ne 43, 3)) rfl rfl (fun c4 => ?_) (fun c4 => ?_)
      · have h := it2 h c4
        exact jRetV C (by decide +kernel : decode cX6_test 63 = .ok (.return_, 1)) (Nat.le_refl _) (Nat.le_refl _) ⟨rfl, h⟩
      · have h := it1 h c4
        refine jB C [(.aload_n 0, 1, 0), (.dup, 1, 0)] 25 [(0, .ref (b + v0)), (1, .int v1), (2, .int v2)] [.ref (b + v0), .ref (b + v0)] (by decide +kernel) rfl rfl ?_
        refine jGetI C 28 (by decide +kernel : decode cX6_test 25 = .ok (.getfield 51, 3)) rfl t_v0 kX6 6 (by decide) rfl rfl (by decide) wd_281 ?_
        refine jB C [(.iconst 1, 1, 1), (.iadd, 1, 0)] 30 [(0, .ref (b + v0)), (1, .int v1), (2, .int v2)] [.int ((S2.1 v0 6) + 1), .ref (b + v0)] (by decide +kernel) rfl rfl ?_
        refine jPutI C 33 (by decide +kernel : decode cX6_test 30 = .ok (.putfield 51, 3)) rfl hE t_v0 kX6 6 (by decide) rfl rfl (by decide) rfl wd_281 rfl rfl rfl ?_
        refine jTopS (fun S5 e_S5 => ?_)
        have h := h S5 e_S5
        refine jB C [(.aload_n 0, 1, 0)] 34 [(0, .ref (b + v0)), (1, .int v1), (2, .int v2)] [.ref (b + v0)] (by decide +kernel) rfl rfl ?_
        obtain ⟨a6, e_a6, h⟩ := h
        refine jGetR C 37 (by decide +kernel : decode cX6_test 34 = .ok (.getfield 33, 3)) rfl t_v0 kX6 10 (by decide) rfl rfl (by decide) wd_286 e_a6 rfl (fun t_a6 => ?_)
        refine jB C [(.bipush 11, 2, 11), (.iconst 0, 1, 0)] 40 [(0, .ref (b + v0)), (1, .int v1), (2, .int v2)] [.int 0, .int 11, .ref (b + a6)] (by decide +kernel) rfl rfl ?_
        refine jcVN_I C 43 (rest := []) (ok_X8_put t_a6 h) (by decide +kernel : decode cX6_test 40 = .ok (.invokevirtual 137, 3)) rfl wn_718 wd_720 wp_51 wd_10 wd_721 ⟨rfl, rfl⟩ hd_X8_put ⟨by simp only [rm_X6_test, rm_X8_put]; omega, by simp only [rm_X6_test, rm_X8_put]; omega⟩ t_a6 kX8 (by decide) rfl rfl rfl (Nat.le_of_ble_eq_true rfl) ⟨Nat.zero_le _, Nat.zero_le _⟩ (fun r8 S7 h => ?_)
        refine jB C [(.istore_n 3, 1, 0), (.aload_n 0, 1, 0), (.iload_n 1, 1, 0)] 46 [(3, .int r8), (0, .ref (b + v0)), (1, .int v1), (2, .int v2)] [.int v1, .ref (b + v0)] (by decide +kernel) rfl rfl ?_
        refine jcV_V C 49 (rest := []) (ok_X6_both_r n hRec t_v0 h) (by decide +kernel : decode cX6_test 46 = .ok (.invokevirtual 134, 3)) rfl wd_742 wd_744 wp_56 wd_9 wd_745 ⟨rfl, rfl⟩ hd_X6_both ⟨by simp only [rm_X6_test, rm_X6_both]; omega, by simp only [rm_X6_test, rm_X6_both]; omega⟩ t_v0 kX6 (by decide) rfl rfl rfl (Nat.le_of_ble_eq_true rfl) ⟨Nat.zero_le _, Nat.zero_le _⟩ (fun S9 h => ?_)
        refine jB C [(.aload_n 0, 1, 0)] 50 [(3, .int r8), (0, .ref (b + v0)), (1, .int v1), (2, .int v2)] [.ref (b + v0)] (by decide +kernel) rfl rfl ?_
        obtain ⟨a10, e_a10, h⟩ := h
        refine jGetR C 53 (by decide +kernel : decode cX6_test 50 = .ok (.getfield 33, 3)) rfl t_v0 kX6 10 (by decide) rfl rfl (by decide) wd_286 e_a10 rfl (fun t_a10 => ?_)
        refine jB C [(.iload_n 3, 1, 0)] 54 [(3, .int r8), (0, .ref (b + v0)), (1, .int v1), (2, .int v2)] [.int r8, .ref (b + a10)] (by decide +kernel) rfl rfl ?_
        refine jcVN_V C 57 (rest := []) (ok_X8_aim t_a10 h) (by decide +kernel : decode cX6_test 54 = .ok (.invokevirtual 140, 3)) rfl wn_754 wd_756 wp_59 wd_10 wd_757 ⟨rfl, rfl⟩ hd_X8_aim ⟨by simp only [rm_X6_test, rm_X8_aim]; omega, by simp only [rm_X6_test, rm_X8_aim]; omega⟩ t_a10 kX8 (by decide) rfl rfl rfl (Nat.le_of_ble_eq_true rfl) ⟨Nat.zero_le _, Nat.zero_le _⟩ (fun S11 h => ?_)
        refine jB C [(.iinc 2 1, 3, 1)] 60 [(2, .int (v2 + 1)), (3, .int r8), (0, .ref (b + v0)), (1, .int v1)] [] (by decide +kernel) rfl rfl ?_
        refine jGoto C 7 (by decide +kernel : decode cX6_test 60 = .ok (.goto (-53), 3)) rfl ?_
        refine jSub [2, 3, 0] rfl ?_
        exact ih (v2 + 1) S11 h
theorem j_X6_test_r_7 {p : Program} {l : Launch} {e : Env} {s : State} {m : MethodId} {args : Array Value} {below : List Frame} {meth : Method} {c : Code} {b : Nat} {D : va_G} {cy : Nat → ClassId} {G : Gm} {R : Nat → Int32 → (St → Prop) → St → Prop} {v0 : Nat} {v1 : Int32} {v2 : Int32} {S : St} {Q : St → Prop} (n : Nat) (hRec : ∀ {v0 : Nat} {v1 : Int32} {Q : St → Prop} {S : St}, ok G 5 v0 → R v0 v1 Q S → MT yX6_test cX6_test 4 none (rm_X6_test n) 0 0 (fun b => [.ref (b + v0), .int v1]) G S (QV (fun G1 S1 => G1 = G ∧ Q S1))) (C : CX p s m args meth c b D cy cX6_test RX6 4 none) (hE : s.heap.size + 0 ≤ b + G.2.2) (t_v0 : ok G 5 v0) (h : f_X6_test_r_7 G R v0 v1 Q v2 S) : J p l e (rm_X6_test (n + 1)) s m args below meth c b D cy 4 (zV b D cy below args s G Q) 0 0 G S 7 [(0, .ref (b + v0)), (1, .int v1), (2, .int v2)] [] := by
  obtain ⟨k, h⟩ := h
  exact j_X6_test_r_7_n n hRec C hE t_v0 k v2 S h
set_option maxHeartbeats 4000000 in
set_option maxRecDepth 100000 in
theorem j_X6_test_r {p : Program} {l : Launch} {e : Env} {s : State} {m : MethodId} {args : Array Value} {below : List Frame} {meth : Method} {c : Code} {b : Nat} {D : va_G} {cy : Nat → ClassId} {G : Gm} {R : Nat → Int32 → (St → Prop) → St → Prop} {v0 : Nat} {v1 : Int32} {S : St} {Q : St → Prop} (n : Nat) (hRec : ∀ {v0 : Nat} {v1 : Int32} {Q : St → Prop} {S : St}, ok G 5 v0 → R v0 v1 Q S → MT yX6_test cX6_test 4 none (rm_X6_test n) 0 0 (fun b => [.ref (b + v0), .int v1]) G S (QV (fun G1 S1 => G1 = G ∧ Q S1))) (C : CX p s m args meth c b D cy cX6_test RX6 4 none) (hE : s.heap.size + 0 ≤ b + G.2.2) (t_v0 : ok G 5 v0) (h : f_X6_test_r G R v0 v1 Q S) : J p l e (rm_X6_test (n + 1)) s m args below meth c b D cy 4 (zV b D cy below args s G Q) 0 0 G S 0 [(0, .ref (b + v0)), (1, .int v1)] [] := by
  unfold f_X6_test_r at h
  refine jB C [(.aload_n 0, 1, 0), (.iload_n 1, 1, 0)] 2 [(0, .ref (b + v0)), (1, .int v1)] [.int v1, .ref (b + v0)] (by decide +kernel) rfl rfl ?_
  refine jcV_V C 5 (rest := []) (ok_X6_both_r n hRec t_v0 h) (by decide +kernel : decode cX6_test 2 = .ok (.invokevirtual 134, 3)) rfl wd_742 wd_744 wp_56 wd_9 wd_745 ⟨rfl, rfl⟩ hd_X6_both ⟨by simp only [rm_X6_test, rm_X6_both]; omega, by simp only [rm_X6_test, rm_X6_both]; omega⟩ t_v0 kX6 (by decide) rfl rfl rfl (Nat.le_of_ble_eq_true rfl) ⟨Nat.zero_le _, Nat.zero_le _⟩ (fun S1 h => ?_)
  refine jB C [(.iconst 0, 1, 0), (.istore_n 2, 1, 0)] 7 [(2, .int 0), (0, .ref (b + v0)), (1, .int v1)] [] (by decide +kernel) rfl rfl ?_
  refine jSub [1, 2, 0] rfl ?_
  exact j_X6_test_r_7 n hRec C hE t_v0 h
theorem ok_X6_test_r {G : Gm} {v0 : Nat} {v1 : Int32} {S : St} {Q : St → Prop}  {R : Nat → Int32 → (St → Prop) → St → Prop} (n : Nat) (hRec : ∀ {v0 : Nat} {v1 : Int32} {Q : St → Prop} {S : St}, ok G 5 v0 → R v0 v1 Q S → MT yX6_test cX6_test 4 none (rm_X6_test n) 0 0 (fun b => [.ref (b + v0), .int v1]) G S (QV (fun G1 S1 => G1 = G ∧ Q S1)))  (t_v0 : ok G 5 v0) (h : f_X6_test_r G R v0 v1 Q S) : MT yX6_test cX6_test 4 none (rm_X6_test (n + 1)) 0 0 (fun b => [.ref (b + v0), .int v1]) G S (QV (fun G1 S1 => G1 = G ∧ Q S1)) := MT.ofJ (by decide +kernel) (fun b => [(0, .ref (b + v0)), (1, .int v1)]) (fun b => rfl) (fun b => Nat.le_of_ble_eq_true rfl) (fun l b D cy p e s m below meth c C hE hn => j_X6_test_r n hRec C hE t_v0 h)
theorem ok_X6_test {G : Gm} : ∀ (n : Nat) {v0 : Nat} {v1 : Int32} {S : St} {Q : St → Prop}, ok G 5 v0 → f_X6_test G n v0 v1 Q S → MT yX6_test cX6_test 4 none (rm_X6_test n) 0 0 (fun b => [.ref (b + v0), .int v1]) G S (QV (fun G1 S1 => G1 = G ∧ Q S1))
  | 0, _, _, _, _, _, h => h.elim
  | n + 1, _, _, _, _, t, h => ok_X6_test_r n (fun t h => ok_X6_test n t h) t h
abbrev rm_X6_clause : Room := { frames := 71, cells := 0, slots := 0, locals := 2323 }
set_option maxHeartbeats 4000000 in
set_option maxRecDepth 100000 in
theorem j_X6_clause_134 {p : Program} {l : Launch} {e : Env} {s : State} {m : MethodId} {args : Array Value} {below : List Frame} {meth : Method} {c : Code} {b : Nat} {D : va_G} {cy : Nat → ClassId} {G : Gm} {v0 : Nat} {S : St} {Q : St → Prop} (C : CX p s m args meth c b D cy cX6_clause RX6 2 none) (hE : s.heap.size + 0 ≤ b + G.2.2) (t_v0 : ok G 5 v0) (h : f_X6_clause_134 G v0 Q S) : J p l e rm_X6_clause s m args below meth c b D cy 2 (zV b D cy below args s G Q) 0 0 G S 134 [(0, .ref (b + v0))] [] := by
  unfold f_X6_clause_134 at h
  refine jB C [(.aload_n 0, 1, 0)] 135 [(0, .ref (b + v0))] [.ref (b + v0)] (by decide +kernel) rfl rfl ?_
  obtain ⟨a1, e_a1, h⟩ := h
  refine jGetR C 138 (by decide +kernel : decode cX6_clause 135 = .ok (.getfield 33, 3)) rfl t_v0 kX6 10 (by decide) rfl rfl (by decide) wd_286 e_a1 rfl (fun t_a1 => ?_)
  refine jB C [(.iconst 3, 1, 3)] 139 [(0, .ref (b + v0))] [.int 3, .ref (b + a1)] (by decide +kernel) rfl rfl ?_
  refine jcVN_V C 142 (rest := []) (ok_X8_mark t_a1 h) (by decide +kernel : decode cX6_clause 139 = .ok (.invokevirtual 116, 3)) rfl wn_729 wd_690 wp_45 wd_10 wd_691 ⟨rfl, rfl⟩ hd_X8_mark ⟨Nat.le_of_ble_eq_true rfl, Nat.le_of_ble_eq_true rfl⟩ t_a1 kX8 (by decide) rfl rfl rfl (Nat.le_of_ble_eq_true rfl) ⟨Nat.zero_le _, Nat.zero_le _⟩ (fun S2 h => ?_)
  exact jRetV C (by decide +kernel : decode cX6_clause 142 = .ok (.return_, 1)) (Nat.le_refl _) (Nat.le_refl _) ⟨rfl, h⟩
set_option maxHeartbeats 4000000 in
set_option maxRecDepth 100000 in
theorem j_X6_clause_102 {p : Program} {l : Launch} {e : Env} {s : State} {m : MethodId} {args : Array Value} {below : List Frame} {meth : Method} {c : Code} {b : Nat} {D : va_G} {cy : Nat → ClassId} {G : Gm} {v0 : Nat} {S : St} {Q : St → Prop} (C : CX p s m args meth c b D cy cX6_clause RX6 2 none) (hE : s.heap.size + 0 ≤ b + G.2.2) (t_v0 : ok G 5 v0) (h : f_X6_clause_102 G v0 Q S) : J p l e rm_X6_clause s m args below meth c b D cy 2 (zV b D cy below args s G Q) 0 0 G S 102 [(0, .ref (b + v0))] [] := by
  unfold f_X6_clause_102 at h
  refine jB C [(.aload_n 0, 1, 0)] 103 [(0, .ref (b + v0))] [.ref (b + v0)] (by decide +kernel) rfl rfl ?_
  obtain ⟨a1, e_a1, h⟩ := h
  refine jGetR C 106 (by decide +kernel : decode cX6_clause 103 = .ok (.getfield 33, 3)) rfl t_v0 kX6 10 (by decide) rfl rfl (by decide) wd_286 e_a1 rfl (fun t_a1 => ?_)
  refine jB C [(.iconst 2, 1, 2)] 107 [(0, .ref (b + v0))] [.int 2, .ref (b + a1)] (by decide +kernel) rfl rfl ?_
  refine jcVN_V C 110 (rest := []) (ok_X8_mark t_a1 h) (by decide +kernel : decode cX6_clause 107 = .ok (.invokevirtual 116, 3)) rfl wn_729 wd_690 wp_45 wd_10 wd_691 ⟨rfl, rfl⟩ hd_X8_mark ⟨Nat.le_of_ble_eq_true rfl, Nat.le_of_ble_eq_true rfl⟩ t_a1 kX8 (by decide) rfl rfl rfl (Nat.le_of_ble_eq_true rfl) ⟨Nat.zero_le _, Nat.zero_le _⟩ (fun S2 h => ?_)
  refine jB C [(.aload_n 0, 1, 0)] 111 [(0, .ref (b + v0))] [.ref (b + v0)] (by decide +kernel) rfl rfl ?_
  refine jcV_I C 114 (rest := []) (ok_X6_here t_v0 h) (by decide +kernel : decode cX6_clause 111 = .ok (.invokevirtual 63, 3)) rfl wd_676 wd_678 wp_42 wd_9 wd_679 ⟨rfl, rfl⟩ hd_X6_here ⟨Nat.le_of_ble_eq_true rfl, Nat.le_of_ble_eq_true rfl⟩ t_v0 kX6 (by decide) rfl rfl rfl (Nat.le_of_ble_eq_true rfl) ⟨Nat.zero_le _, Nat.zero_le _⟩ (fun r4 S3 h => ?_)
  refine jB C [(.bipush 9, 2, 9)] 116 [(0, .ref (b + v0))] [.int 9, .int r4] (by decide +kernel) rfl rfl ?_
  refine jIcmp_ne C 119 134 (by decide +kernel : decode cX6_clause 116 = .ok (.if_icmp .ne 18, 3)) rfl rfl (fun c5 => ?_) (fun c5 => ?_)
  · have h := it2 h c5
    refine jSub [0] rfl ?_
    exact j_X6_clause_134 C hE t_v0 h
  · have h := it1 h c5
    refine jB C [(.aload_n 0, 1, 0), (.dup, 1, 0)] 121 [(0, .ref (b + v0))] [.ref (b + v0), .ref (b + v0)] (by decide +kernel) rfl rfl ?_
    refine jGetI C 124 (by decide +kernel : decode cX6_clause 121 = .ok (.getfield 51, 3)) rfl t_v0 kX6 6 (by decide) rfl rfl (by decide) wd_281 ?_
    refine jB C [(.iconst 1, 1, 1), (.iadd, 1, 0)] 126 [(0, .ref (b + v0))] [.int ((S3.1 v0 6) + 1), .ref (b + v0)] (by decide +kernel) rfl rfl ?_
    refine jPutI C 129 (by decide +kernel : decode cX6_clause 126 = .ok (.putfield 51, 3)) rfl hE t_v0 kX6 6 (by decide) rfl rfl (by decide) rfl wd_281 rfl rfl rfl ?_
    refine jTopS (fun S6 e_S6 => ?_)
    have h := h S6 e_S6
    refine jB C [(.aload_n 0, 1, 0), (.iconst 0, 1, 0)] 131 [(0, .ref (b + v0))] [.int 0, .ref (b + v0)] (by decide +kernel) rfl rfl ?_
    refine jcV_V C 134 (rest := []) (ok_X6_test 10 t_v0 h) (by decide +kernel : decode cX6_clause 131 = .ok (.invokevirtual 122, 3)) rfl wd_738 wd_740 wp_55 wd_9 wd_741 ⟨rfl, rfl⟩ hd_X6_test ⟨Nat.le_of_ble_eq_true rfl, Nat.le_of_ble_eq_true rfl⟩ t_v0 kX6 (by decide) rfl rfl rfl (Nat.le_of_ble_eq_true rfl) ⟨Nat.zero_le _, Nat.zero_le _⟩ (fun S7 h => ?_)
    refine jSub [0] rfl ?_
    exact j_X6_clause_134 C hE t_v0 h
set_option maxHeartbeats 4000000 in
set_option maxRecDepth 100000 in
theorem j_X6_clause_82 {p : Program} {l : Launch} {e : Env} {s : State} {m : MethodId} {args : Array Value} {below : List Frame} {meth : Method} {c : Code} {b : Nat} {D : va_G} {cy : Nat → ClassId} {G : Gm} {v0 : Nat} {v1 : Int32} {S : St} {Q : St → Prop} (C : CX p s m args meth c b D cy cX6_clause RX6 2 none) (hE : s.heap.size + 0 ≤ b + G.2.2) (t_v0 : ok G 5 v0) (h : f_X6_clause_82 G v0 v1 Q S) : J p l e rm_X6_clause s m args below meth c b D cy 2 (zV b D cy below args s G Q) 0 0 G S 82 [(0, .ref (b + v0)), (1, .int v1)] [] := by
  unfold f_X6_clause_82 at h
  refine jB C [(.aload_n 0, 1, 0)] 83 [(0, .ref (b + v0)), (1, .int v1)] [.ref (b + v0)] (by decide +kernel) rfl rfl ?_
  obtain ⟨a1, e_a1, h⟩ := h
  refine jGetR C 86 (by decide +kernel : decode cX6_clause 83 = .ok (.getfield 33, 3)) rfl t_v0 kX6 10 (by decide) rfl rfl (by decide) wd_286 e_a1 rfl (fun t_a1 => ?_)
  refine jB C [(.iconst 1, 1, 1)] 87 [(0, .ref (b + v0)), (1, .int v1)] [.int 1, .ref (b + a1)] (by decide +kernel) rfl rfl ?_
  refine jcVN_V C 90 (rest := []) (ok_X8_mark t_a1 h) (by decide +kernel : decode cX6_clause 87 = .ok (.invokevirtual 116, 3)) rfl wn_729 wd_690 wp_45 wd_10 wd_691 ⟨rfl, rfl⟩ hd_X8_mark ⟨Nat.le_of_ble_eq_true rfl, Nat.le_of_ble_eq_true rfl⟩ t_a1 kX8 (by decide) rfl rfl rfl (Nat.le_of_ble_eq_true rfl) ⟨Nat.zero_le _, Nat.zero_le _⟩ (fun S2 h => ?_)
  refine jB C [(.aload_n 0, 1, 0)] 91 [(0, .ref (b + v0)), (1, .int v1)] [.ref (b + v0)] (by decide +kernel) rfl rfl ?_
  refine jGetI C 94 (by decide +kernel : decode cX6_clause 91 = .ok (.getfield 44, 3)) rfl t_v0 kX6 8 (by decide) rfl rfl (by decide) wd_283 ?_
  refine jIf_ne C 97 102 (by decide +kernel : decode cX6_clause 94 = .ok (.ifCond .ne 8, 3)) rfl rfl (fun c3 => ?_) (fun c3 => ?_)
  · have h := it2 h c3
    refine jSub [0] rfl ?_
    exact j_X6_clause_102 C hE t_v0 h
  · have h := it1 h c3
    refine jB C [(.aload_n 0, 1, 0), (.iload_n 1, 1, 0)] 99 [(0, .ref (b + v0)), (1, .int v1)] [.int v1, .ref (b + v0)] (by decide +kernel) rfl rfl ?_
    refine jcV_V C 102 (rest := []) (ok_X6_restOfOrder t_v0 h) (by decide +kernel : decode cX6_clause 99 = .ok (.invokevirtual 119, 3)) rfl wd_730 wd_732 wp_53 wd_9 wd_733 ⟨rfl, rfl⟩ hd_X6_restOfOrder ⟨Nat.le_of_ble_eq_true rfl, Nat.le_of_ble_eq_true rfl⟩ t_v0 kX6 (by decide) rfl rfl rfl (Nat.le_of_ble_eq_true rfl) ⟨Nat.zero_le _, Nat.zero_le _⟩ (fun S4 h => ?_)
    refine jSub [0] rfl ?_
    exact j_X6_clause_102 C hE t_v0 h
set_option maxHeartbeats 4000000 in
set_option maxRecDepth 100000 in
theorem j_X6_clause_74 {p : Program} {l : Launch} {e : Env} {s : State} {m : MethodId} {args : Array Value} {below : List Frame} {meth : Method} {c : Code} {b : Nat} {D : va_G} {cy : Nat → ClassId} {G : Gm} {v0 : Nat} {v1 : Int32} {u0 : Int32} {u1 : Int32} {S : St} {Q : St → Prop} (C : CX p s m args meth c b D cy cX6_clause RX6 2 none) (hE : s.heap.size + 0 ≤ b + G.2.2) (t_v0 : ok G 5 v0) (h : f_X6_clause_74 G v0 v1 u0 u1 Q S) : J p l e rm_X6_clause s m args below meth c b D cy 2 (zV b D cy below args s G Q) 0 0 G S 74 [(0, .ref (b + v0)), (1, .int v1)] [.int u0, .int u1] := by
  unfold f_X6_clause_74 at h
  refine jIcmp_eq C 77 82 (by decide +kernel : decode cX6_clause 74 = .ok (.if_icmp .eq 8, 3)) rfl rfl (fun c1 => ?_) (fun c1 => ?_)
  · have h := it1 h c1
    refine jSub [0, 1] rfl ?_
    exact j_X6_clause_82 C hE t_v0 h
  · have h := it2 h c1
    refine jB C [(.aload_n 0, 1, 0), (.iconst 0, 1, 0)] 79 [(0, .ref (b + v0)), (1, .int v1)] [.int 0, .ref (b + v0)] (by decide +kernel) rfl rfl ?_
    refine jcV_V C 82 (rest := []) (ok_X6_sum 10 t_v0 h) (by decide +kernel : decode cX6_clause 79 = .ok (.invokevirtual 113, 3)) rfl wd_692 wd_694 wp_46 wd_9 wd_695 ⟨rfl, rfl⟩ hd_X6_sum ⟨Nat.le_of_ble_eq_true rfl, Nat.le_of_ble_eq_true rfl⟩ t_v0 kX6 (by decide) rfl rfl rfl (Nat.le_of_ble_eq_true rfl) ⟨Nat.zero_le _, Nat.zero_le _⟩ (fun S2 h => ?_)
    refine jSub [0, 1] rfl ?_
    exact j_X6_clause_82 C hE t_v0 h
set_option maxHeartbeats 4000000 in
set_option maxRecDepth 100000 in
theorem j_X6_clause_38 {p : Program} {l : Launch} {e : Env} {s : State} {m : MethodId} {args : Array Value} {below : List Frame} {meth : Method} {c : Code} {b : Nat} {D : va_G} {cy : Nat → ClassId} {G : Gm} {v0 : Nat} {S : St} {Q : St → Prop} (C : CX p s m args meth c b D cy cX6_clause RX6 2 none) (hE : s.heap.size + 0 ≤ b + G.2.2) (t_v0 : ok G 5 v0) (h : f_X6_clause_38 G v0 Q S) : J p l e rm_X6_clause s m args below meth c b D cy 2 (zV b D cy below args s G Q) 0 0 G S 38 [(0, .ref (b + v0))] [] := by
  unfold f_X6_clause_38 at h
  refine jB C [(.aload_n 0, 1, 0)] 39 [(0, .ref (b + v0))] [.ref (b + v0)] (by decide +kernel) rfl rfl ?_
  refine jcV_V C 42 (rest := []) (ok_X6_fail t_v0 h) (by decide +kernel : decode cX6_clause 39 = .ok (.invokevirtual 67, 3)) rfl wd_680 wd_682 wp_43 wd_9 wd_683 ⟨rfl, rfl⟩ hd_X6_fail ⟨Nat.le_of_ble_eq_true rfl, Nat.le_of_ble_eq_true rfl⟩ t_v0 kX6 (by decide) rfl rfl rfl (Nat.le_of_ble_eq_true rfl) ⟨Nat.zero_le _, Nat.zero_le _⟩ (fun S1 h => ?_)
  exact jRetV C (by decide +kernel : decode cX6_clause 42 = .ok (.return_, 1)) (Nat.le_refl _) (Nat.le_refl _) ⟨rfl, h⟩
set_option maxHeartbeats 4000000 in
set_option maxRecDepth 100000 in
theorem j_X6_clause_35 {p : Program} {l : Launch} {e : Env} {s : State} {m : MethodId} {args : Array Value} {below : List Frame} {meth : Method} {c : Code} {b : Nat} {D : va_G} {cy : Nat → ClassId} {G : Gm} {v0 : Nat} {v1 : Int32} {u0 : Int32} {u1 : Int32} {S : St} {Q : St → Prop} (C : CX p s m args meth c b D cy cX6_clause RX6 2 none) (hE : s.heap.size + 0 ≤ b + G.2.2) (t_v0 : ok G 5 v0) (h : f_X6_clause_35 G v0 v1 u0 u1 Q S) : J p l e rm_X6_clause s m args below meth c b D cy 2 (zV b D cy below args s G Q) 0 0 G S 35 [(0, .ref (b + v0)), (1, .int v1)] [.int u0, .int u1] := by
  unfold f_X6_clause_35 at h
  refine jIcmp_le C 38 43 (by decide +kernel : decode cX6_clause 35 = .ok (.if_icmp .le 8, 3)) rfl rfl (fun c1 => ?_) (fun c1 => ?_)
  · have h := it1 h c1
    refine jB C [(.aload_n 0, 1, 0), (.dup, 1, 0)] 45 [(0, .ref (b + v0)), (1, .int v1)] [.ref (b + v0), .ref (b + v0)] (by decide +kernel) rfl rfl ?_
    refine jGetI C 48 (by decide +kernel : decode cX6_clause 45 = .ok (.getfield 51, 3)) rfl t_v0 kX6 6 (by decide) rfl rfl (by decide) wd_281 ?_
    refine jB C [(.iconst 1, 1, 1), (.iadd, 1, 0)] 50 [(0, .ref (b + v0)), (1, .int v1)] [.int ((S.1 v0 6) + 1), .ref (b + v0)] (by decide +kernel) rfl rfl ?_
    refine jPutI C 53 (by decide +kernel : decode cX6_clause 50 = .ok (.putfield 51, 3)) rfl hE t_v0 kX6 6 (by decide) rfl rfl (by decide) rfl wd_281 rfl rfl rfl ?_
    refine jTopS (fun S2 e_S2 => ?_)
    have h := h S2 e_S2
    refine jB C [(.aload_n 0, 1, 0)] 54 [(0, .ref (b + v0)), (1, .int v1)] [.ref (b + v0)] (by decide +kernel) rfl rfl ?_
    obtain ⟨a3, e_a3, h⟩ := h
    refine jGetR C 57 (by decide +kernel : decode cX6_clause 54 = .ok (.getfield 33, 3)) rfl t_v0 kX6 10 (by decide) rfl rfl (by decide) wd_286 e_a3 rfl (fun t_a3 => ?_)
    refine jB C [(.iload_n 1, 1, 0)] 58 [(0, .ref (b + v0)), (1, .int v1)] [.int v1, .ref (b + a3)] (by decide +kernel) rfl rfl ?_
    refine jcVN_V C 61 (rest := []) (ok_X8_open t_a3 h) (by decide +kernel : decode cX6_clause 58 = .ok (.invokevirtual 109, 3)) rfl wn_684 wd_686 wp_44 wd_10 wd_687 ⟨rfl, rfl⟩ hd_X8_open ⟨Nat.le_of_ble_eq_true rfl, Nat.le_of_ble_eq_true rfl⟩ t_a3 kX8 (by decide) rfl rfl rfl (Nat.le_of_ble_eq_true rfl) ⟨Nat.zero_le _, Nat.zero_le _⟩ (fun S4 h => ?_)
    refine jB C [(.iload_n 1, 1, 0), (.aload_n 0, 1, 0)] 63 [(0, .ref (b + v0)), (1, .int v1)] [.ref (b + v0), .int v1] (by decide +kernel) rfl rfl ?_
    refine jGetI C 66 (by decide +kernel : decode cX6_clause 63 = .ok (.getfield 44, 3)) rfl t_v0 kX6 8 (by decide) rfl rfl (by decide) wd_283 ?_
    refine jIf_eq C 69 73 (by decide +kernel : decode cX6_clause 66 = .ok (.ifCond .eq 7, 3)) rfl rfl (fun c5 => ?_) (fun c5 => ?_)
    · have h := it1 h c5
      refine jB C [(.iconst 4, 1, 4)] 74 [(0, .ref (b + v0)), (1, .int v1)] [.int 4, .int v1] (by decide +kernel) rfl rfl ?_
      refine jSub [0, 1] rfl ?_
      exact j_X6_clause_74 C hE t_v0 h
    · have h := it2 h c5
      refine jB C [(.iconst 3, 1, 3)] 70 [(0, .ref (b + v0)), (1, .int v1)] [.int 3, .int v1] (by decide +kernel) rfl rfl ?_
      refine jGoto C 74 (by decide +kernel : decode cX6_clause 70 = .ok (.goto 4, 3)) rfl ?_
      refine jSub [0, 1] rfl ?_
      exact j_X6_clause_74 C hE t_v0 h
  · have h := it2 h c1
    refine jSub [0] rfl ?_
    exact j_X6_clause_38 C hE t_v0 h
set_option maxHeartbeats 4000000 in
set_option maxRecDepth 100000 in
theorem j_X6_clause_16 {p : Program} {l : Launch} {e : Env} {s : State} {m : MethodId} {args : Array Value} {below : List Frame} {meth : Method} {c : Code} {b : Nat} {D : va_G} {cy : Nat → ClassId} {G : Gm} {v0 : Nat} {u0 : Int32} {u1 : Int32} {S : St} {Q : St → Prop} (C : CX p s m args meth c b D cy cX6_clause RX6 2 none) (hE : s.heap.size + 0 ≤ b + G.2.2) (t_v0 : ok G 5 v0) (h : f_X6_clause_16 G v0 u0 u1 Q S) : J p l e rm_X6_clause s m args below meth c b D cy 2 (zV b D cy below args s G Q) 0 0 G S 16 [(0, .ref (b + v0))] [.int u0, .int u1] := by
  unfold f_X6_clause_16 at h
  refine jB C [(.isub, 1, 0)] 17 [(0, .ref (b + v0))] [.int (u1 - u0)] (by decide +kernel) rfl rfl ?_
  refine jTopI (fun x1 e_x1 => ?_)
  have h := h x1 e_x1
  refine jB C [(.istore_n 1, 1, 0), (.iload_n 1, 1, 0)] 19 [(1, .int x1), (0, .ref (b + v0))] [.int x1] (by decide +kernel) rfl rfl ?_
  refine jIf_lt C 22 38 (by decide +kernel : decode cX6_clause 19 = .ok (.ifCond .lt 19, 3)) rfl rfl (fun c2 => ?_) (fun c2 => ?_)
  · have h := it1 h c2
    refine jSub [1] rfl ?_
    exact j_X6_clause_38 C hE t_v0 h
  · have h := it2 h c2
    refine jB C [(.iload_n 1, 1, 0), (.aload_n 0, 1, 0)] 24 [(1, .int x1), (0, .ref (b + v0))] [.ref (b + v0), .int x1] (by decide +kernel) rfl rfl ?_
    refine jGetI C 27 (by decide +kernel : decode cX6_clause 24 = .ok (.getfield 44, 3)) rfl t_v0 kX6 8 (by decide) rfl rfl (by decide) wd_283 ?_
    refine jIf_eq C 30 34 (by decide +kernel : decode cX6_clause 27 = .ok (.ifCond .eq 7, 3)) rfl rfl (fun c3 => ?_) (fun c3 => ?_)
    · have h := it1 h c3
      refine jB C [(.iconst 4, 1, 4)] 35 [(1, .int x1), (0, .ref (b + v0))] [.int 4, .int x1] (by decide +kernel) rfl rfl ?_
      refine jSub [1, 0] rfl ?_
      exact j_X6_clause_35 C hE t_v0 h
    · have h := it2 h c3
      refine jB C [(.iconst 3, 1, 3)] 31 [(1, .int x1), (0, .ref (b + v0))] [.int 3, .int x1] (by decide +kernel) rfl rfl ?_
      refine jGoto C 35 (by decide +kernel : decode cX6_clause 31 = .ok (.goto 4, 3)) rfl ?_
      refine jSub [1, 0] rfl ?_
      exact j_X6_clause_35 C hE t_v0 h
set_option maxHeartbeats 4000000 in
set_option maxRecDepth 100000 in
theorem j_X6_clause {p : Program} {l : Launch} {e : Env} {s : State} {m : MethodId} {args : Array Value} {below : List Frame} {meth : Method} {c : Code} {b : Nat} {D : va_G} {cy : Nat → ClassId} {G : Gm} {v0 : Nat} {S : St} {Q : St → Prop} (C : CX p s m args meth c b D cy cX6_clause RX6 2 none) (hE : s.heap.size + 0 ≤ b + G.2.2) (t_v0 : ok G 5 v0) (h : f_X6_clause G v0 Q S) : J p l e rm_X6_clause s m args below meth c b D cy 2 (zV b D cy below args s G Q) 0 0 G S 0 [(0, .ref (b + v0))] [] := by
  unfold f_X6_clause at h
  refine jB C [(.aload_n 0, 1, 0)] 1 [(0, .ref (b + v0))] [.ref (b + v0)] (by decide +kernel) rfl rfl ?_
  refine jcV_I C 4 (rest := []) (ok_X6_here t_v0 h) (by decide +kernel : decode cX6_clause 1 = .ok (.invokevirtual 63, 3)) rfl wd_676 wd_678 wp_42 wd_9 wd_679 ⟨rfl, rfl⟩ hd_X6_here ⟨Nat.le_of_ble_eq_true rfl, Nat.le_of_ble_eq_true rfl⟩ t_v0 kX6 (by decide) rfl rfl rfl (Nat.le_of_ble_eq_true rfl) ⟨Nat.zero_le _, Nat.zero_le _⟩ (fun r2 S1 h => ?_)
  refine jB C [(.aload_n 0, 1, 0)] 5 [(0, .ref (b + v0))] [.ref (b + v0), .int r2] (by decide +kernel) rfl rfl ?_
  refine jGetI C 8 (by decide +kernel : decode cX6_clause 5 = .ok (.getfield 44, 3)) rfl t_v0 kX6 8 (by decide) rfl rfl (by decide) wd_283 ?_
  refine jIf_eq C 11 15 (by decide +kernel : decode cX6_clause 8 = .ok (.ifCond .eq 7, 3)) rfl rfl (fun c3 => ?_) (fun c3 => ?_)
  · have h := it1 h c3
    refine jB C [(.iconst 4, 1, 4)] 16 [(0, .ref (b + v0))] [.int 4, .int r2] (by decide +kernel) rfl rfl ?_
    refine jSub [0] rfl ?_
    exact j_X6_clause_16 C hE t_v0 h
  · have h := it2 h c3
    refine jB C [(.iconst 0, 1, 0)] 12 [(0, .ref (b + v0))] [.int 0, .int r2] (by decide +kernel) rfl rfl ?_
    refine jGoto C 16 (by decide +kernel : decode cX6_clause 12 = .ok (.goto 4, 3)) rfl ?_
    refine jSub [0] rfl ?_
    exact j_X6_clause_16 C hE t_v0 h
theorem ok_X6_clause {G : Gm} {v0 : Nat} {S : St} {Q : St → Prop}  (t_v0 : ok G 5 v0) (h : f_X6_clause G v0 Q S) : MT yX6_clause cX6_clause 2 none rm_X6_clause 0 0 (fun b => [.ref (b + v0)]) G S (QV (fun G1 S1 => G1 = G ∧ Q S1)) := MT.ofJ (by decide +kernel) (fun b => [(0, .ref (b + v0))]) (fun b => rfl) (fun b => Nat.le_of_ble_eq_true rfl) (fun l b D cy p e s m below meth c C hE hn => j_X6_clause C hE t_v0 h)
theorem hd_X6_clause : yX6_clause.cls ≠ "java/lang/invoke/MethodHandle" ∧ yX6_clause.cls ≠ "java/lang/invoke/VarHandle" ∧ (parseMethodDescriptor yX6_clause.desc).map (fun d => d.parameters.length) = some 0 := by decide +kernel
