def f_X2_lastTold_109 (G : Gm) (k14 : Int32 → St → Prop) (v0 : Nat) (v1 : Option Nat) (v2 : Int32) (v3 : Int32) (u0 : Int32) (Q : Int32 → St → Prop) (S : St) : Prop :=
  (if u0 = (-2147483648) then k14 (v3 + (-1)) S else Q u0 S)
def f_X2_lastTold_84 (G : Gm) (k14 : Int32 → St → Prop) (v0 : Nat) (v1 : Option Nat) (v2 : Int32) (v3 : Int32) (v4 : Int32) (v5 : Int32) (Q : Int32 → St → Prop) (S : St) : Prop :=
  (if v2 = 3 then f_X2_lastTold_109 G k14 v0 v1 v2 v3 1 Q S else (∃ a2, S.2.2 v0 1 = some a2 ∧ (∃ a3, S.2.2 v0 0 = some a3 ∧ f_X7_worth G a2 v1 v4 v5 a3 (fun r5 S4 => f_X2_lastTold_109 G k14 v0 v1 v2 v3 r5 Q S4) S)))
def f_X2_lastTold_14_n (G : Gm) (v0 : Nat) (v1 : Option Nat) (v2 : Int32) (Q : Int32 → St → Prop) : Nat → Int32 → St → Prop
  | 0, _, _ => False
  | n + 1, v3, S => (if v3 < 0 then Q (-2147483648) S else f_X8_verbOf G v1 v3 (fun r3 S2 => (if r3 = v2 then f_X8_markOf G v1 v3 0 (fun r6 S5 => f_X8_markOf G v1 v3 2 (fun r8 S7 => f_X8_markOf G v1 v3 3 (fun r10 S9 => (if r10 ≤ r8 then f_X2_lastTold_84 G (f_X2_lastTold_14_n G v0 v1 v2 Q n) v0 v1 v2 v3 r6 r8 Q S9 else (∃ a12, S9.2.2 v0 1 = some a12 ∧ (∃ a13, S9.2.2 v0 0 = some a13 ∧ f_X7_worth G a12 v1 r8 r10 a13 (fun r15 S14 => (if r15 = 1 then f_X2_lastTold_84 G (f_X2_lastTold_14_n G v0 v1 v2 Q n) v0 v1 v2 v3 r6 r8 Q S14 else (f_X2_lastTold_14_n G v0 v1 v2 Q n) (v3 + (-1)) S14)) S9)))) S7) S5) S2 else (f_X2_lastTold_14_n G v0 v1 v2 Q n) (v3 + (-1)) S2)) S)
def f_X2_lastTold_14 (G : Gm) (v0 : Nat) (v1 : Option Nat) (v2 : Int32) (Q : Int32 → St → Prop) (v3 : Int32) (S : St) : Prop := ∃ n, f_X2_lastTold_14_n G v0 v1 v2 Q n v3 S
def f_X2_lastTold (G : Gm) (v0 : Nat) (v1 : Option Nat) (v2 : Int32) (Q : Int32 → St → Prop) (S : St) : Prop :=
  ((∀ a1, v1 = some a1 → (∀ x3 : Int32, x3 = (S.1 a1 5) - 1 → f_X2_lastTold_14 G v0 a1 v2 Q x3 S)) ∧ (v1 = none → Q (-2147483648) S))
abbrev rm_X2_lastTold : Room := { frames := 2, cells := 0, slots := 0, locals := 55 }
set_option maxHeartbeats 4000000 in
set_option maxRecDepth 100000 in
theorem j_X2_lastTold_109 {p : Program} {l : Launch} {e : Env} {s : State} {m : MethodId} {args : Array Value} {below : List Frame} {meth : Method} {c : Code} {b : Nat} {D : va_G} {cy : Nat → ClassId} {G : Gm} {k14 : Int32 → St → Prop} {v0 : Nat} {v1 : Option Nat} {v2 : Int32} {v3 : Int32} {u0 : Int32} {S : St} {Q : Int32 → St → Prop} (C : CX p s m args meth c b D cy cX2_lastTold RX2 8 (some .int)) (hE : s.heap.size + 0 ≤ b + G.2.2) (t_v0 : ok G 2 v0) (t_v1 : ∀ z, v1 = some z → ok G 7 z) (hk14 : ∀ v3' S, k14 v3' S → J p l e rm_X2_lastTold s m args below meth c b D cy 8 (zI b D cy below args s G Q) 0 0 G S 14 [(0, .ref (b + v0)), (1, rv b v1), (2, .int v2), (3, .int (v3'))] []) (h : f_X2_lastTold_109 G k14 v0 v1 v2 v3 u0 Q S) : J p l e rm_X2_lastTold s m args below meth c b D cy 8 (zI b D cy below args s G Q) 0 0 G S 109 [(0, .ref (b + v0)), (1, rv b v1), (2, .int v2), (3, .int v3)] [.int u0] := by
  unfold f_X2_lastTold_109 at h
  refine jB C [(.istore 7, 2, 0), (.iload 7, 2, 0)] 113 [(7, .int u0), (0, .ref (b + v0)), (1, rv b v1), (2, .int v2), (3, .int v3)] [.int u0] (by decide +kernel) rfl rfl ?_
  refine jLdc C 115 (by decide +kernel : decode cX2_lastTold 113 = .ok (.ldc 30, 2)) rfl wd_461 ?_
  refine jIcmp_eq C 118 121 (by decide +kernel : decode cX2_lastTold 115 = .ok (.if_icmp .eq 6, 3)) rfl rfl (fun c1 => ?_) (fun c1 => ?_)
  · have h := it1 h c1
    refine jB C [(.iinc 3 (-1), 3, (-1))] 124 [(3, .int (v3 + (-1))), (7, .int u0), (0, .ref (b + v0)), (1, rv b v1), (2, .int v2)] [] (by decide +kernel) rfl rfl ?_
    refine jGoto C 14 (by decide +kernel : decode cX2_lastTold 124 = .ok (.goto (-110), 3)) rfl ?_
    refine jSub [2, 3, 4, 0] rfl ?_
    exact hk14 (v3 + (-1)) S h
  · have h := it2 h c1
    refine jB C [(.iload 7, 2, 0)] 120 [(7, .int u0), (0, .ref (b + v0)), (1, rv b v1), (2, .int v2), (3, .int v3)] [.int u0] (by decide +kernel) rfl rfl ?_
    exact jRetI C (by decide +kernel : decode cX2_lastTold 120 = .ok (.ireturn, 1)) (Nat.le_refl _) (Nat.le_refl _) ⟨rfl, h⟩
set_option maxHeartbeats 4000000 in
set_option maxRecDepth 100000 in
theorem j_X2_lastTold_84 {p : Program} {l : Launch} {e : Env} {s : State} {m : MethodId} {args : Array Value} {below : List Frame} {meth : Method} {c : Code} {b : Nat} {D : va_G} {cy : Nat → ClassId} {G : Gm} {k14 : Int32 → St → Prop} {v0 : Nat} {v1 : Option Nat} {v2 : Int32} {v3 : Int32} {v4 : Int32} {v5 : Int32} {S : St} {Q : Int32 → St → Prop} (C : CX p s m args meth c b D cy cX2_lastTold RX2 8 (some .int)) (hE : s.heap.size + 0 ≤ b + G.2.2) (t_v0 : ok G 2 v0) (t_v1 : ∀ z, v1 = some z → ok G 7 z) (hk14 : ∀ v3' S, k14 v3' S → J p l e rm_X2_lastTold s m args below meth c b D cy 8 (zI b D cy below args s G Q) 0 0 G S 14 [(0, .ref (b + v0)), (1, rv b v1), (2, .int v2), (3, .int (v3'))] []) (h : f_X2_lastTold_84 G k14 v0 v1 v2 v3 v4 v5 Q S) : J p l e rm_X2_lastTold s m args below meth c b D cy 8 (zI b D cy below args s G Q) 0 0 G S 84 [(0, .ref (b + v0)), (1, rv b v1), (2, .int v2), (3, .int v3), (4, .int v4), (5, .int v5)] [] := by
  unfold f_X2_lastTold_84 at h
  refine jB C [(.iload_n 2, 1, 0), (.iconst 3, 1, 3)] 86 [(0, .ref (b + v0)), (1, rv b v1), (2, .int v2), (3, .int v3), (4, .int v4), (5, .int v5)] [.int 3, .int v2] (by decide +kernel) rfl rfl ?_
  refine jIcmp_ne C 89 93 (by decide +kernel : decode cX2_lastTold 86 = .ok (.if_icmp .ne 7, 3)) rfl rfl (fun c1 => ?_) (fun c1 => ?_)
  · have h := it2 h c1
    refine jB C [(.aload_n 0, 1, 0)] 94 [(0, .ref (b + v0)), (1, rv b v1), (2, .int v2), (3, .int v3), (4, .int v4), (5, .int v5)] [.ref (b + v0)] (by decide +kernel) rfl rfl ?_
    obtain ⟨a2, e_a2, h⟩ := h
    refine jGetR C 97 (by decide +kernel : decode cX2_lastTold 94 = .ok (.getfield 18, 3)) rfl t_v0 kX2 1 (by decide) rfl rfl (by decide) wd_118 e_a2 rfl (fun t_a2 => ?_)
    refine jAloadQ_n C 98 (by decide +kernel : decode cX2_lastTold 97 = .ok (.aload_n 1, 1)) rfl 1 rfl ?_
    refine jB C [(.iload 4, 2, 0), (.iload 5, 2, 0), (.aload_n 0, 1, 0)] 103 [(0, .ref (b + v0)), (1, rv b v1), (2, .int v2), (3, .int v3), (4, .int v4), (5, .int v5)] [.ref (b + v0), .int v5, .int v4, rv b v1, .ref (b + a2)] (by decide +kernel) rfl rfl ?_
    obtain ⟨a3, e_a3, h⟩ := h
    refine jGetR C 106 (by decide +kernel : decode cX2_lastTold 103 = .ok (.getfield 9, 3)) rfl t_v0 kX2 0 (by decide) rfl rfl (by decide) wd_117 e_a3 rfl (fun t_a3 => ?_)
    refine jcVN_I C 109 (rest := []) (ok_X7_worth t_a2 t_v1 t_a3 h) (by decide +kernel : decode cX2_lastTold 106 = .ok (.invokevirtual 82, 3)) rfl wn_470 wd_472 wp_21 wd_5 wd_473 ⟨rfl, rfl⟩ hd_X7_worth ⟨Nat.le_of_ble_eq_true rfl, Nat.le_of_ble_eq_true rfl⟩ t_a2 kX7 (by decide) rfl rfl rfl (Nat.le_of_ble_eq_true rfl) ⟨Nat.zero_le _, Nat.zero_le _⟩ (fun r5 S4 h => ?_)
    refine jSub [0, 1, 2, 3] rfl ?_
    exact j_X2_lastTold_109 C hE t_v0 t_v1 hk14 h
  · have h := it1 h c1
    refine jB C [(.iconst 1, 1, 1)] 90 [(0, .ref (b + v0)), (1, rv b v1), (2, .int v2), (3, .int v3), (4, .int v4), (5, .int v5)] [.int 1] (by decide +kernel) rfl rfl ?_
    refine jGoto C 109 (by decide +kernel : decode cX2_lastTold 90 = .ok (.goto 19, 3)) rfl ?_
    refine jSub [0, 1, 2, 3] rfl ?_
    exact j_X2_lastTold_109 C hE t_v0 t_v1 hk14 h
set_option maxHeartbeats 4000000 in
set_option maxRecDepth 100000 in
theorem j_X2_lastTold_14_n {p : Program} {l : Launch} {e : Env} {s : State} {m : MethodId} {args : Array Value} {below : List Frame} {meth : Method} {c : Code} {b : Nat} {D : va_G} {cy : Nat → ClassId} {G : Gm} {v0 : Nat} {v1 : Option Nat} {v2 : Int32} {Q : Int32 → St → Prop} (C : CX p s m args meth c b D cy cX2_lastTold RX2 8 (some .int)) (hE : s.heap.size + 0 ≤ b + G.2.2) (t_v0 : ok G 2 v0) (t_v1 : ∀ z, v1 = some z → ok G 7 z) : ∀ n (v3 : Int32) S, f_X2_lastTold_14_n G v0 v1 v2 Q n v3 S → J p l e rm_X2_lastTold s m args below meth c b D cy 8 (zI b D cy below args s G Q) 0 0 G S 14 [(0, .ref (b + v0)), (1, rv b v1), (2, .int v2), (3, .int v3)] [] := by
  intro n
  induction n with
  | zero => intro v3 S h; exact h.elim
  | succ n ih =>
    intro v3 S h
    unfold f_X2_lastTold_14_n at h
    refine jB C [(.iload_n 3, 1, 0)] 15 [(0, .ref (b + v0)), (1, rv b v1), (2, .int v2), (3, .int v3)] [.int v3] (by decide +kernel) rfl rfl ?_
    refine jIf_lt C 18 127 (by decide +kernel : decode cX2_lastTold 15 = .ok (.ifCond .lt 112, 3)) rfl rfl (fun c1 => ?_) (fun c1 => ?_)
    · have h := it1 h c1
      refine jLdc C 129 (by decide +kernel : decode cX2_lastTold 127 = .ok (.ldc 30, 2)) rfl wd_461 ?_
      exact jRetI C (by decide +kernel : decode cX2_lastTold 129 = .ok (.ireturn, 1)) (Nat.le_refl _) (Nat.le_refl _) ⟨rfl, h⟩
    · have h := it2 h c1
      refine jAloadQ_n C 19 (by decide +kernel : decode cX2_lastTold 18 = .ok (.aload_n 1, 1)) rfl 1 rfl ?_
      refine jB C [(.iload_n 3, 1, 0)] 20 [(0, .ref (b + v0)), (1, rv b v1), (2, .int v2), (3, .int v3)] [.int v3, rv b v1] (by decide +kernel) rfl rfl ?_
      refine jcVN_I C 23 (rest := []) (ok_X8_verbOf t_v1 h) (by decide +kernel : decode cX2_lastTold 20 = .ok (.invokevirtual 76, 3)) rfl wn_462 wd_464 wp_19 wd_10 wd_465 ⟨rfl, rfl⟩ hd_X8_verbOf ⟨Nat.le_of_ble_eq_true rfl, Nat.le_of_ble_eq_true rfl⟩ t_v1 kX8 (by decide) rfl rfl rfl (Nat.le_of_ble_eq_true rfl) ⟨Nat.zero_le _, Nat.zero_le _⟩ (fun r3 S2 h => ?_)
      refine jB C [(.iload_n 2, 1, 0)] 24 [(0, .ref (b + v0)), (1, rv b v1), (2, .int v2), (3, .int v3)] [.int v2, .int r3] (by decide +kernel) rfl rfl ?_
      refine jIcmp_eq C 27 30 (by decide +kernel : decode cX2_lastTold 24 = .ok (.if_icmp .eq 6, 3)) rfl rfl (fun c4 => ?_) (fun c4 => ?_)
      · have h := it1 h c4
        refine jAloadQ_n C 31 (by decide +kernel : decode cX2_lastTold 30 = .ok (.aload_n 1, 1)) rfl 1 rfl ?_
        refine jB C [(.iload_n 3, 1, 0), (.iconst 0, 1, 0)] 33 [(0, .ref (b + v0)), (1, rv b v1), (2, .int v2), (3, .int v3)] [.int 0, .int v3, rv b v1] (by decide +kernel) rfl rfl ?_
        refine jcVN_I C 36 (rest := []) (ok_X8_markOf t_v1 h) (by decide +kernel : decode cX2_lastTold 33 = .ok (.invokevirtual 79, 3)) rfl wn_466 wd_468 wp_20 wd_10 wd_469 ⟨rfl, rfl⟩ hd_X8_markOf ⟨Nat.le_of_ble_eq_true rfl, Nat.le_of_ble_eq_true rfl⟩ t_v1 kX8 (by decide) rfl rfl rfl (Nat.le_of_ble_eq_true rfl) ⟨Nat.zero_le _, Nat.zero_le _⟩ (fun r6 S5 h => ?_)
        refine jB C [(.istore 4, 2, 0)] 38 [(4, .int r6), (0, .ref (b + v0)), (1, rv b v1), (2, .int v2), (3, .int v3)] [] (by decide +kernel) rfl rfl ?_
        refine jAloadQ_n C 39 (by decide +kernel : decode cX2_lastTold 38 = .ok (.aload_n 1, 1)) rfl 2 rfl ?_
        refine jB C [(.iload_n 3, 1, 0), (.iconst 2, 1, 2)] 41 [(4, .int r6), (0, .ref (b + v0)), (1, rv b v1), (2, .int v2), (3, .int v3)] [.int 2, .int v3, rv b v1] (by decide +kernel) rfl rfl ?_
        refine jcVN_I C 44 (rest := []) (ok_X8_markOf t_v1 h) (by decide +kernel : decode cX2_lastTold 41 = .ok (.invokevirtual 79, 3)) rfl wn_466 wd_468 wp_20 wd_10 wd_469 ⟨rfl, rfl⟩ hd_X8_markOf ⟨Nat.le_of_ble_eq_true rfl, Nat.le_of_ble_eq_true rfl⟩ t_v1 kX8 (by decide) rfl rfl rfl (Nat.le_of_ble_eq_true rfl) ⟨Nat.zero_le _, Nat.zero_le _⟩ (fun r8 S7 h => ?_)
        refine jB C [(.istore 5, 2, 0)] 46 [(5, .int r8), (4, .int r6), (0, .ref (b + v0)), (1, rv b v1), (2, .int v2), (3, .int v3)] [] (by decide +kernel) rfl rfl ?_
        refine jAloadQ_n C 47 (by decide +kernel : decode cX2_lastTold 46 = .ok (.aload_n 1, 1)) rfl 3 rfl ?_
        refine jB C [(.iload_n 3, 1, 0), (.iconst 3, 1, 3)] 49 [(5, .int r8), (4, .int r6), (0, .ref (b + v0)), (1, rv b v1), (2, .int v2), (3, .int v3)] [.int 3, .int v3, rv b v1] (by decide +kernel) rfl rfl ?_
        refine jcVN_I C 52 (rest := []) (ok_X8_markOf t_v1 h) (by decide +kernel : decode cX2_lastTold 49 = .ok (.invokevirtual 79, 3)) rfl wn_466 wd_468 wp_20 wd_10 wd_469 ⟨rfl, rfl⟩ hd_X8_markOf ⟨Nat.le_of_ble_eq_true rfl, Nat.le_of_ble_eq_true rfl⟩ t_v1 kX8 (by decide) rfl rfl rfl (Nat.le_of_ble_eq_true rfl) ⟨Nat.zero_le _, Nat.zero_le _⟩ (fun r10 S9 h => ?_)
        refine jB C [(.istore 6, 2, 0), (.iload 5, 2, 0), (.iload 6, 2, 0)] 58 [(6, .int r10), (5, .int r8), (4, .int r6), (0, .ref (b + v0)), (1, rv b v1), (2, .int v2), (3, .int v3)] [.int r10, .int r8] (by decide +kernel) rfl rfl ?_
        refine jIcmp_ge C 61 84 (by decide +kernel : decode cX2_lastTold 58 = .ok (.if_icmp .ge 26, 3)) rfl rfl (fun c11 => ?_) (fun c11 => ?_)
        · have h := it1 h c11
          refine jSub [3, 4, 5, 6, 2, 1] rfl ?_
          exact j_X2_lastTold_84 C hE t_v0 t_v1 ih h
        · have h := it2 h c11
          refine jB C [(.aload_n 0, 1, 0)] 62 [(6, .int r10), (5, .int r8), (4, .int r6), (0, .ref (b + v0)), (1, rv b v1), (2, .int v2), (3, .int v3)] [.ref (b + v0)] (by decide +kernel) rfl rfl ?_
          obtain ⟨a12, e_a12, h⟩ := h
          refine jGetR C 65 (by decide +kernel : decode cX2_lastTold 62 = .ok (.getfield 18, 3)) rfl t_v0 kX2 1 (by decide) rfl rfl (by decide) wd_118 e_a12 rfl (fun t_a12 => ?_)
          refine jAloadQ_n C 66 (by decide +kernel : decode cX2_lastTold 65 = .ok (.aload_n 1, 1)) rfl 4 rfl ?_
          refine jB C [(.iload 5, 2, 0), (.iload 6, 2, 0), (.aload_n 0, 1, 0)] 71 [(6, .int r10), (5, .int r8), (4, .int r6), (0, .ref (b + v0)), (1, rv b v1), (2, .int v2), (3, .int v3)] [.ref (b + v0), .int r10, .int r8, rv b v1, .ref (b + a12)] (by decide +kernel) rfl rfl ?_
          obtain ⟨a13, e_a13, h⟩ := h
          refine jGetR C 74 (by decide +kernel : decode cX2_lastTold 71 = .ok (.getfield 9, 3)) rfl t_v0 kX2 0 (by decide) rfl rfl (by decide) wd_117 e_a13 rfl (fun t_a13 => ?_)
          refine jcVN_I C 77 (rest := []) (ok_X7_worth t_a12 t_v1 t_a13 h) (by decide +kernel : decode cX2_lastTold 74 = .ok (.invokevirtual 82, 3)) rfl wn_470 wd_472 wp_21 wd_5 wd_473 ⟨rfl, rfl⟩ hd_X7_worth ⟨Nat.le_of_ble_eq_true rfl, Nat.le_of_ble_eq_true rfl⟩ t_a12 kX7 (by decide) rfl rfl rfl (Nat.le_of_ble_eq_true rfl) ⟨Nat.zero_le _, Nat.zero_le _⟩ (fun r15 S14 h => ?_)
          refine jB C [(.iconst 1, 1, 1)] 78 [(6, .int r10), (5, .int r8), (4, .int r6), (0, .ref (b + v0)), (1, rv b v1), (2, .int v2), (3, .int v3)] [.int 1, .int r15] (by decide +kernel) rfl rfl ?_
          refine jIcmp_eq C 81 84 (by decide +kernel : decode cX2_lastTold 78 = .ok (.if_icmp .eq 6, 3)) rfl rfl (fun c16 => ?_) (fun c16 => ?_)
          · have h := it1 h c16
            refine jSub [3, 4, 5, 6, 2, 1] rfl ?_
            exact j_X2_lastTold_84 C hE t_v0 t_v1 ih h
          · have h := it2 h c16
            refine jGoto C 121 (by decide +kernel : decode cX2_lastTold 81 = .ok (.goto 40, 3)) rfl ?_
            refine jB C [(.iinc 3 (-1), 3, (-1))] 124 [(3, .int (v3 + (-1))), (6, .int r10), (5, .int r8), (4, .int r6), (0, .ref (b + v0)), (1, rv b v1), (2, .int v2)] [] (by decide +kernel) rfl rfl ?_
            refine jGoto C 14 (by decide +kernel : decode cX2_lastTold 124 = .ok (.goto (-110), 3)) rfl ?_
            refine jSub [4, 5, 6, 0] rfl ?_
            exact ih (v3 + (-1)) S14 h
      · have h := it2 h c4
        refine jGoto C 121 (by decide +kernel : decode cX2_lastTold 27 = .ok (.goto 94, 3)) rfl ?_
        refine jB C [(.iinc 3 (-1), 3, (-1))] 124 [(3, .int (v3 + (-1))), (0, .ref (b + v0)), (1, rv b v1), (2, .int v2)] [] (by decide +kernel) rfl rfl ?_
        refine jGoto C 14 (by decide +kernel : decode cX2_lastTold 124 = .ok (.goto (-110), 3)) rfl ?_
        refine jSub [1, 2, 3, 0] rfl ?_
        exact ih (v3 + (-1)) S2 h
theorem j_X2_lastTold_14 {p : Program} {l : Launch} {e : Env} {s : State} {m : MethodId} {args : Array Value} {below : List Frame} {meth : Method} {c : Code} {b : Nat} {D : va_G} {cy : Nat → ClassId} {G : Gm} {v0 : Nat} {v1 : Option Nat} {v2 : Int32} {v3 : Int32} {S : St} {Q : Int32 → St → Prop} (C : CX p s m args meth c b D cy cX2_lastTold RX2 8 (some .int)) (hE : s.heap.size + 0 ≤ b + G.2.2) (t_v0 : ok G 2 v0) (t_v1 : ∀ z, v1 = some z → ok G 7 z) (h : f_X2_lastTold_14 G v0 v1 v2 Q v3 S) : J p l e rm_X2_lastTold s m args below meth c b D cy 8 (zI b D cy below args s G Q) 0 0 G S 14 [(0, .ref (b + v0)), (1, rv b v1), (2, .int v2), (3, .int v3)] [] := by
  obtain ⟨n, h⟩ := h
  exact j_X2_lastTold_14_n C hE t_v0 t_v1 n v3 S h
set_option maxHeartbeats 4000000 in
set_option maxRecDepth 100000 in
theorem j_X2_lastTold {p : Program} {l : Launch} {e : Env} {s : State} {m : MethodId} {args : Array Value} {below : List Frame} {meth : Method} {c : Code} {b : Nat} {D : va_G} {cy : Nat → ClassId} {G : Gm} {v0 : Nat} {v1 : Option Nat} {v2 : Int32} {S : St} {Q : Int32 → St → Prop} (C : CX p s m args meth c b D cy cX2_lastTold RX2 8 (some .int)) (hE : s.heap.size + 0 ≤ b + G.2.2) (t_v0 : ok G 2 v0) (t_v1 : ∀ z, v1 = some z → ok G 7 z) (h : f_X2_lastTold G v0 v1 v2 Q S) : J p l e rm_X2_lastTold s m args below meth c b D cy 8 (zI b D cy below args s G Q) 0 0 G S 0 [(0, .ref (b + v0)), (1, rv b v1), (2, .int v2)] [] := by
  unfold f_X2_lastTold at h
  refine jAloadQ_n C 1 (by decide +kernel : decode cX2_lastTold 0 = .ok (.aload_n 1, 1)) rfl 1 rfl ?_
  refine jIfnn C 4 7 (by decide +kernel : decode cX2_lastTold 1 = .ok (.ifnonnull 6, 3)) rfl rfl (fun a1 e_a1 => ?_) (fun e_a1 => ?_)
  · have t2 := t_v1 a1 e_a1
    have h := h.1 a1 e_a1
    subst e_a1
    refine jB C [(.aload_n 1, 1, 0)] 8 [(0, .ref (b + v0)), (1, .ref (b + a1)), (2, .int v2)] [.ref (b + a1)] (by decide +kernel) rfl rfl ?_
    refine jGetIN C 11 (by decide +kernel : decode cX2_lastTold 8 = .ok (.getfield 70, 3)) rfl t2 kX8 5 (by decide) rfl rfl (by decide) wn_256 ?_
    refine jB C [(.iconst 1, 1, 1), (.isub, 1, 0)] 13 [(0, .ref (b + v0)), (1, .ref (b + a1)), (2, .int v2)] [.int ((S.1 a1 5) - 1)] (by decide +kernel) rfl rfl ?_
    refine jTopI (fun x3 e_x3 => ?_)
    have h := h x3 e_x3
    refine jB C [(.istore_n 3, 1, 0)] 14 [(3, .int x3), (0, .ref (b + v0)), (1, .ref (b + a1)), (2, .int v2)] [] (by decide +kernel) rfl rfl ?_
    refine jSub [1, 2, 3, 0] rfl ?_
    exact j_X2_lastTold_14 C hE t_v0 (fun x hx => by cases hx; exact t2) h
  · have h := h.2 e_a1
    subst e_a1
    refine jLdc C 6 (by decide +kernel : decode cX2_lastTold 4 = .ok (.ldc 30, 2)) rfl wd_461 ?_
    exact jRetI C (by decide +kernel : decode cX2_lastTold 6 = .ok (.ireturn, 1)) (Nat.le_refl _) (Nat.le_refl _) ⟨rfl, h⟩
theorem ok_X2_lastTold {G : Gm} {v0 : Nat} {v1 : Option Nat} {v2 : Int32} {S : St} {Q : Int32 → St → Prop} (t_v0 : ok G 2 v0) (t_v1 : ∀ z, v1 = some z → ok G 7 z) (h : f_X2_lastTold G v0 v1 v2 Q S) : MT yX2_lastTold cX2_lastTold 8 (some .int) rm_X2_lastTold 0 0 (fun b => [.ref (b + v0), rv b v1, .int v2]) G S (QI (fun r G1 S1 => G1 = G ∧ Q r S1)) := MT.ofJ (by decide) (fun b => [(0, .ref (b + v0)), (1, rv b v1), (2, .int v2)]) (fun b => by cases v1 <;> rfl) (fun b => by cases v1 <;> exact Nat.le_of_ble_eq_true rfl) (fun l b D cy p e s m below meth c C hE hn => j_X2_lastTold C hE t_v0 t_v1 h)
theorem hd_X2_lastTold : yX2_lastTold.cls ≠ "java/lang/invoke/MethodHandle" ∧ yX2_lastTold.cls ≠ "java/lang/invoke/VarHandle" ∧ (parseMethodDescriptor yX2_lastTold.desc).map (fun d => d.parameters.length) = some 2 := by decide +kernel
def f_X10_nearest (G : Gm) (v0 : Int32) (v1 : Int32) (v2 : Int32) (Q : Int32 → St → Prop) (S : St) : Prop :=
  Q (mx v1 (mn v2 v0)) S
abbrev rm_X10_nearest : Room := { frames := 1, cells := 0, slots := 0, locals := 30 }
set_option maxHeartbeats 4000000 in
set_option maxRecDepth 100000 in
theorem j_X10_nearest {p : Program} {l : Launch} {e : Env} {s : State} {m : MethodId} {args : Array Value} {below : List Frame} {meth : Method} {c : Code} {b : Nat} {D : va_G} {cy : Nat → ClassId} {G : Gm} {v0 : Int32} {v1 : Int32} {v2 : Int32} {S : St} {Q : Int32 → St → Prop} (C : CX p s m args meth c b D cy cX10_nearest RX10 3 (some .int)) (hE : s.heap.size + 0 ≤ b + G.2.2) (h : f_X10_nearest G v0 v1 v2 Q S) : J p l e rm_X10_nearest s m args below meth c b D cy 3 (zI b D cy below args s G Q) 0 0 G S 0 [(0, .int v0), (1, .int v1), (2, .int v2)] [] := by
  unfold f_X10_nearest at h
  refine jB C [(.iload_n 1, 1, 0), (.iload_n 2, 1, 0), (.iload_n 0, 1, 0)] 3 [(0, .int v0), (1, .int v1), (2, .int v2)] [.int v0, .int v2, .int v1] (by decide +kernel) rfl rfl ?_
  refine jMin C 6 (by decide +kernel : decode cX10_nearest 3 = .ok (.invokestatic 314, 3)) rfl wd_243 (Nat.le_of_ble_eq_true rfl) (Nat.le_of_ble_eq_true rfl) (Nat.le_of_ble_eq_true rfl) ?_
  refine jMax C 9 (by decide +kernel : decode cX10_nearest 6 = .ok (.invokestatic 319, 3)) rfl wd_246 (Nat.le_of_ble_eq_true rfl) (Nat.le_of_ble_eq_true rfl) (Nat.le_of_ble_eq_true rfl) ?_
  exact jRetI C (by decide +kernel : decode cX10_nearest 9 = .ok (.ireturn, 1)) (Nat.le_refl _) (Nat.le_refl _) ⟨rfl, h⟩
theorem ok_X10_nearest {G : Gm} {v0 : Int32} {v1 : Int32} {v2 : Int32} {S : St} {Q : Int32 → St → Prop} (h : f_X10_nearest G v0 v1 v2 Q S) : MT yX10_nearest cX10_nearest 3 (some .int) rm_X10_nearest 0 0 (fun b => [.int v0, .int v1, .int v2]) G S (QI (fun r G1 S1 => G1 = G ∧ Q r S1)) := MT.ofJ (by decide) (fun b => [(0, .int v0), (1, .int v1), (2, .int v2)]) (fun b => rfl) (fun b => Nat.le_of_ble_eq_true rfl) (fun l b D cy p e s m below meth c C hE hn => j_X10_nearest C hE h)
theorem hd_X10_nearest : yX10_nearest.cls ≠ "java/lang/invoke/MethodHandle" ∧ yX10_nearest.cls ≠ "java/lang/invoke/VarHandle" ∧ (parseMethodDescriptor yX10_nearest.desc).map (fun d => d.parameters.length) = some 3 := by decide +kernel
def f_X2_deed (G : Gm) (v0 : Nat) (v1 : Nat) (v2 : Int32) (v3 : Int32) (Q : Int32 → St → Prop) (S : St) : Prop :=
  f_X2_aboutPerson G v0 v1 v2 v3 (fun S1 => f_X5_lawInForce G v1 (fun r3 S2 => (∀ z, r3 = some z → ok G 7 z) ∧ f_X2_lastTold G v0 r3 2 (fun r6 S5 => (if r6 = (-2147483648) then f_X3_litCells G v3 (fun r11 S10 => Q (r11 - r11 / 4 * 4) S10) S5 else f_X10_nearest G r6 0 3 (fun r9 S8 => Q r9 S8) S5)) S2) S1) S
abbrev rm_X2_deed : Room := { frames := 3, cells := 0, slots := 0, locals := 82 }
set_option maxHeartbeats 4000000 in
set_option maxRecDepth 100000 in
theorem j_X2_deed {p : Program} {l : Launch} {e : Env} {s : State} {m : MethodId} {args : Array Value} {below : List Frame} {meth : Method} {c : Code} {b : Nat} {D : va_G} {cy : Nat → ClassId} {G : Gm} {v0 : Nat} {v1 : Nat} {v2 : Int32} {v3 : Int32} {S : St} {Q : Int32 → St → Prop} (C : CX p s m args meth c b D cy cX2_deed RX2 5 (some .int)) (hE : s.heap.size + 0 ≤ b + G.2.2) (t_v0 : ok G 2 v0) (t_v1 : ok G 4 v1) (h : f_X2_deed G v0 v1 v2 v3 Q S) : J p l e rm_X2_deed s m args below meth c b D cy 5 (zI b D cy below args s G Q) 0 0 G S 0 [(0, .ref (b + v0)), (1, .ref (b + v1)), (2, .int v2), (3, .int v3)] [] := by
  unfold f_X2_deed at h
  refine jB C [(.aload_n 0, 1, 0), (.aload_n 1, 1, 0), (.iload_n 2, 1, 0), (.iload_n 3, 1, 0)] 4 [(0, .ref (b + v0)), (1, .ref (b + v1)), (2, .int v2), (3, .int v3)] [.int v3, .int v2, .ref (b + v1), .ref (b + v0)] (by decide +kernel) rfl rfl ?_
  refine jcV_V C 7 (rest := []) (ok_X2_aboutPerson t_v0 t_v1 h) (by decide +kernel : decode cX2_deed 4 = .ok (.invokevirtual 45, 3)) rfl wd_430 wd_432 wp_13 wd_4 wd_433 ⟨rfl, rfl⟩ hd_X2_aboutPerson ⟨Nat.le_of_ble_eq_true rfl, Nat.le_of_ble_eq_true rfl⟩ t_v0 kX2 (by decide) rfl rfl rfl (Nat.le_of_ble_eq_true rfl) ⟨Nat.zero_le _, Nat.zero_le _⟩ (fun S1 h => ?_)
  refine jB C [(.aload_n 0, 1, 0), (.aload_n 1, 1, 0)] 9 [(0, .ref (b + v0)), (1, .ref (b + v1)), (2, .int v2), (3, .int v3)] [.ref (b + v1), .ref (b + v0)] (by decide +kernel) rfl rfl ?_
  refine jcVN_O C 12 (rest := [.ref (b + v0)]) (ok_X5_lawInForce t_v1 h) (by decide +kernel : decode cX2_deed 9 = .ok (.invokevirtual 41, 3)) rfl wn_445 wd_447 wp_15 wd_2 wd_448 ⟨rfl, rfl⟩ hd_X5_lawInForce ⟨Nat.le_of_ble_eq_true rfl, Nat.le_of_ble_eq_true rfl⟩ t_v1 kX5 (by decide) rfl rfl rfl (Nat.le_of_ble_eq_true rfl) ⟨Nat.zero_le _, Nat.zero_le _⟩ (fun r3 S2 h => ?_)
  obtain ⟨t4, h⟩ := h
  refine jB C [(.iconst 2, 1, 2)] 13 [(0, .ref (b + v0)), (1, .ref (b + v1)), (2, .int v2), (3, .int v3)] [.int 2, rv b r3, .ref (b + v0)] (by decide +kernel) rfl rfl ?_
  refine jcV_I C 16 (rest := []) (ok_X2_lastTold t_v0 t4 h) (by decide +kernel : decode cX2_deed 13 = .ok (.invokevirtual 26, 3)) rfl wd_457 wd_459 wp_18 wd_4 wd_460 ⟨rfl, rfl⟩ hd_X2_lastTold ⟨Nat.le_of_ble_eq_true rfl, Nat.le_of_ble_eq_true rfl⟩ t_v0 kX2 (by decide) rfl rfl rfl (Nat.le_of_ble_eq_true rfl) ⟨Nat.zero_le _, Nat.zero_le _⟩ (fun r6 S5 h => ?_)
  refine jB C [(.istore 4, 2, 0), (.iload 4, 2, 0)] 20 [(4, .int r6), (0, .ref (b + v0)), (1, .ref (b + v1)), (2, .int v2), (3, .int v3)] [.int r6] (by decide +kernel) rfl rfl ?_
  refine jLdc C 22 (by decide +kernel : decode cX2_deed 20 = .ok (.ldc 30, 2)) rfl wd_461 ?_
  refine jIcmp_ne C 25 34 (by decide +kernel : decode cX2_deed 22 = .ok (.if_icmp .ne 12, 3)) rfl rfl (fun c7 => ?_) (fun c7 => ?_)
  · have h := it2 h c7
    refine jB C [(.iload 4, 2, 0), (.iconst 0, 1, 0), (.iconst 3, 1, 3)] 38 [(4, .int r6), (0, .ref (b + v0)), (1, .ref (b + v1)), (2, .int v2), (3, .int v3)] [.int 3, .int 0, .int r6] (by decide +kernel) rfl rfl ?_
    refine jcSN_I C 41 (rest := []) (ok_X10_nearest h) (by decide +kernel : decode cX2_deed 38 = .ok (.invokestatic 31, 3)) rfl wn_484 wd_241 wd_1 wd_242 ⟨rfl, rfl⟩ hd_X10_nearest ⟨Nat.le_of_ble_eq_true rfl, Nat.le_of_ble_eq_true rfl⟩ rfl rfl (Nat.le_of_ble_eq_true rfl) ⟨Nat.zero_le _, Nat.zero_le _⟩ (fun r9 S8 h => ?_)
    exact jRetI C (by decide +kernel : decode cX2_deed 41 = .ok (.ireturn, 1)) (Nat.le_refl _) (Nat.le_refl _) ⟨rfl, h⟩
  · have h := it1 h c7
    refine jB C [(.iload_n 3, 1, 0)] 26 [(4, .int r6), (0, .ref (b + v0)), (1, .ref (b + v1)), (2, .int v2), (3, .int v3)] [.int v3] (by decide +kernel) rfl rfl ?_
    refine jcSN_I C 29 (rest := []) (ok_X3_litCells h) (by decide +kernel : decode cX2_deed 26 = .ok (.invokestatic 48, 3)) rfl wn_438 wd_439 wd_13 wd_440 ⟨rfl, rfl⟩ hd_X3_litCells ⟨Nat.le_of_ble_eq_true rfl, Nat.le_of_ble_eq_true rfl⟩ rfl rfl (Nat.le_of_ble_eq_true rfl) ⟨Nat.zero_le _, Nat.zero_le _⟩ (fun r11 S10 h => ?_)
    refine jB C [(.iconst 4, 1, 4)] 30 [(4, .int r6), (0, .ref (b + v0)), (1, .ref (b + v1)), (2, .int v2), (3, .int v3)] [.int 4, .int r11] (by decide +kernel) rfl rfl ?_
    refine jIrem C 31 (by decide +kernel : decode cX2_deed 30 = .ok (.irem, 1)) rfl (by decide) ?_
    refine jGoto C 41 (by decide +kernel : decode cX2_deed 31 = .ok (.goto 10, 3)) rfl ?_
    exact jRetI C (by decide +kernel : decode cX2_deed 41 = .ok (.ireturn, 1)) (Nat.le_refl _) (Nat.le_refl _) ⟨rfl, h⟩
theorem ok_X2_deed {G : Gm} {v0 : Nat} {v1 : Nat} {v2 : Int32} {v3 : Int32} {S : St} {Q : Int32 → St → Prop} (t_v0 : ok G 2 v0) (t_v1 : ok G 4 v1) (h : f_X2_deed G v0 v1 v2 v3 Q S) : MT yX2_deed cX2_deed 5 (some .int) rm_X2_deed 0 0 (fun b => [.ref (b + v0), .ref (b + v1), .int v2, .int v3]) G S (QI (fun r G1 S1 => G1 = G ∧ Q r S1)) := MT.ofJ (by decide) (fun b => [(0, .ref (b + v0)), (1, .ref (b + v1)), (2, .int v2), (3, .int v3)]) (fun b => rfl) (fun b => Nat.le_of_ble_eq_true rfl) (fun l b D cy p e s m below meth c C hE hn => j_X2_deed C hE t_v0 t_v1 h)
theorem hd_X2_deed : yX2_deed.cls ≠ "java/lang/invoke/MethodHandle" ∧ yX2_deed.cls ≠ "java/lang/invoke/VarHandle" ∧ (parseMethodDescriptor yX2_deed.desc).map (fun d => d.parameters.length) = some 3 := by decide +kernel
def f_X0_learnWords_146 (G : Gm) (k44 : Int32 → St → Prop) (v0 : Nat) (v1 : Int32) (v2 : Nat) (v3 : Int32) (u0 : Int32) (u1 : Int32) (u2 : Nat) (Q : St → Prop) (S : St) : Prop :=
  (vp_in u1 (G.2.1 u2) ∧ ∀ S2, S2 = uI S u2 u1.toNatClampNeg u0 → k44 (v3 + 1) S2)
def f_X0_learnWords_105 (G : Gm) (k44 : Int32 → St → Prop) (v0 : Nat) (v1 : Int32) (v2 : Nat) (v3 : Int32) (v4 : Int32) (v5 : Int32) (u0 : Int32) (u1 : Int32) (u2 : Nat) (Q : St → Prop) (S : St) : Prop :=
  (vp_in u1 (G.2.1 u2) ∧ ∀ S2, S2 = uI S u2 u1.toNatClampNeg u0 → (if ((v1 >>> (((16 + v3) : Int32) &&& 31)) &&& 1) = 1 then (∃ a4, S2.2.2 v0 5 = some a4 ∧ (if v4 = 0 then f_X0_learnWords_146 G k44 v0 v1 v2 v3 (-1) (16 + v3) a4 Q S2 else (∃ a6, S2.2.2 v0 2 = some a6 ∧ f_X2_deed G a6 v2 v3 v5 (fun r8 S7 => f_X0_learnWords_146 G k44 v0 v1 v2 v3 r8 (16 + v3) a4 Q S7) S2))) else k44 (v3 + 1) S2))
def f_X0_learnWords_85 (G : Gm) (k44 : Int32 → St → Prop) (v0 : Nat) (v1 : Int32) (v2 : Nat) (v3 : Int32) (v4 : Int32) (v5 : Int32) (u0 : Int32) (u1 : Int32) (u2 : Nat) (Q : St → Prop) (S : St) : Prop :=
  (vp_in u1 (G.2.1 u2) ∧ ∀ S2, S2 = uI S u2 u1.toNatClampNeg u0 → (∃ a3, S2.2.2 v0 5 = some a3 ∧ (if v4 = 0 then f_X0_learnWords_105 G k44 v0 v1 v2 v3 v4 v5 (-1) (10 + v3) a3 Q S2 else f_X0_learnWords_105 G k44 v0 v1 v2 v3 v4 v5 v5 (10 + v3) a3 Q S2)))
def f_X0_learnWords_44_n (G : Gm) (v0 : Nat) (v1 : Int32) (v2 : Nat) (Q : St → Prop) : Nat → Int32 → St → Prop
  | 0, _, _ => False
  | n + 1, v3, S => (if 6 ≤ v3 then Q S else f_X5_has G v2 v3 (fun r3 S2 => f_X5_sightOf G v2 v3 (fun r5 S4 => (∃ a6, S4.2.2 v0 5 = some a6 ∧ (if r3 = 0 then f_X0_learnWords_85 G (f_X0_learnWords_44_n G v0 v1 v2 Q n) v0 v1 v2 v3 r3 r5 (-1) (4 + v3) a6 Q S4 else f_X5_sinsOf G v2 v3 (fun r9 S8 => f_X0_learnWords_85 G (f_X0_learnWords_44_n G v0 v1 v2 Q n) v0 v1 v2 v3 r3 r5 r9 (4 + v3) a6 Q S8) S4))) S2) S)
def f_X0_learnWords_44 (G : Gm) (v0 : Nat) (v1 : Int32) (v2 : Nat) (Q : St → Prop) (v3 : Int32) (S : St) : Prop := ∃ n, f_X0_learnWords_44_n G v0 v1 v2 Q n v3 S
def f_X0_learnWords (G : Gm) (v0 : Nat) (v1 : Int32) (v2 : Nat) (Q : St → Prop) (S : St) : Prop :=
  (∃ a1, S.2.2 v0 5 = some a1 ∧ f_X5_termOf G v2 0 (fun r3 S2 => (vp_in 0 (G.2.1 a1) ∧ ∀ S5, S5 = uI S2 a1 0.toNatClampNeg r3 → (∃ a6, S5.2.2 v0 5 = some a6 ∧ (vp_in 1 (G.2.1 a6) ∧ ∀ S8, S8 = uI S5 a6 1.toNatClampNeg (S5.1 v0 6) → (∃ a9, S8.2.2 v0 5 = some a9 ∧ (vp_in 2 (G.2.1 a9) ∧ ∀ S11, S11 = uI S8 a9 2.toNatClampNeg (S8.1 v0 7) → (∃ a12, S11.2.2 v0 5 = some a12 ∧ f_X5_termOf G v2 3 (fun r14 S13 => (vp_in 3 (G.2.1 a12) ∧ ∀ S16, S16 = uI S13 a12 3.toNatClampNeg r14 → f_X0_learnWords_44 G v0 v1 v2 Q 0 S16)) S11))))))) S)
abbrev rm_X0_learnWords : Room := { frames := 4, cells := 0, slots := 0, locals := 106 }
set_option maxHeartbeats 4000000 in
set_option maxRecDepth 100000 in
theorem j_X0_learnWords_146 {p : Program} {l : Launch} {e : Env} {s : State} {m : MethodId} {args : Array Value} {below : List Frame} {meth : Method} {c : Code} {b : Nat} {D : va_G} {cy : Nat → ClassId} {G : Gm} {k44 : Int32 → St → Prop} {v0 : Nat} {v1 : Int32} {v2 : Nat} {v3 : Int32} {u0 : Int32} {u1 : Int32} {u2 : Nat} {S : St} {Q : St → Prop} (C : CX p s m args meth c b D cy cX0_learnWords RX0 6 none) (hE : s.heap.size + 0 ≤ b + G.2.2) (t_v0 : ok G 0 v0) (t_v2 : ok G 4 v2) (t_u2 : ok G 11 u2) (hk44 : ∀ v3' S, k44 v3' S → J p l e rm_X0_learnWords s m args below meth c b D cy 6 (zV b D cy below args s G Q) 0 0 G S 44 [(0, .ref (b + v0)), (1, .int v1), (2, .ref (b + v2)), (3, .int (v3'))] []) (h : f_X0_learnWords_146 G k44 v0 v1 v2 v3 u0 u1 u2 Q S) : J p l e rm_X0_learnWords s m args below meth c b D cy 6 (zV b D cy below args s G Q) 0 0 G S 146 [(0, .ref (b + v0)), (1, .int v1), (2, .ref (b + v2)), (3, .int v3)] [.int u0, .int u1, .ref (b + u2)] := by
  unfold f_X0_learnWords_146 at h
  obtain ⟨y1, h⟩ := h
  refine jIast C 147 (by decide +kernel : decode cX0_learnWords 146 = .ok (.iastore, 1)) rfl hE t_u2 y1 ?_
  refine jTopS (fun S2 e_S2 => ?_)
  have h := h S2 e_S2
  refine jB C [(.iinc 3 1, 3, 1)] 150 [(3, .int (v3 + 1)), (0, .ref (b + v0)), (1, .int v1), (2, .ref (b + v2))] [] (by decide +kernel) rfl rfl ?_
  refine jGoto C 44 (by decide +kernel : decode cX0_learnWords 150 = .ok (.goto (-106), 3)) rfl ?_
  refine jSub [1, 2, 3, 0] rfl ?_
  exact hk44 (v3 + 1) S2 h
set_option maxHeartbeats 4000000 in
set_option maxRecDepth 100000 in
theorem j_X0_learnWords_105 {p : Program} {l : Launch} {e : Env} {s : State} {m : MethodId} {args : Array Value} {below : List Frame} {meth : Method} {c : Code} {b : Nat} {D : va_G} {cy : Nat → ClassId} {G : Gm} {k44 : Int32 → St → Prop} {v0 : Nat} {v1 : Int32} {v2 : Nat} {v3 : Int32} {v4 : Int32} {v5 : Int32} {u0 : Int32} {u1 : Int32} {u2 : Nat} {S : St} {Q : St → Prop} (C : CX p s m args meth c b D cy cX0_learnWords RX0 6 none) (hE : s.heap.size + 0 ≤ b + G.2.2) (t_v0 : ok G 0 v0) (t_v2 : ok G 4 v2) (t_u2 : ok G 11 u2) (hk44 : ∀ v3' S, k44 v3' S → J p l e rm_X0_learnWords s m args below meth c b D cy 6 (zV b D cy below args s G Q) 0 0 G S 44 [(0, .ref (b + v0)), (1, .int v1), (2, .ref (b + v2)), (3, .int (v3'))] []) (h : f_X0_learnWords_105 G k44 v0 v1 v2 v3 v4 v5 u0 u1 u2 Q S) : J p l e rm_X0_learnWords s m args below meth c b D cy 6 (zV b D cy below args s G Q) 0 0 G S 105 [(0, .ref (b + v0)), (1, .int v1), (2, .ref (b + v2)), (3, .int v3), (4, .int v4), (5, .int v5)] [.int u0, .int u1, .ref (b + u2)] := by
  unfold f_X0_learnWords_105 at h
  obtain ⟨y1, h⟩ := h
  refine jIast C 106 (by decide +kernel : decode cX0_learnWords 105 = .ok (.iastore, 1)) rfl hE t_u2 y1 ?_
  refine jTopS (fun S2 e_S2 => ?_)
  have h := h S2 e_S2
  refine jB C [(.iload_n 1, 1, 0), (.bipush 16, 2, 16), (.iload_n 3, 1, 0), (.iadd, 1, 0), (.ishr, 1, 0), (.iconst 1, 1, 1), (.iand, 1, 0), (.iconst 1, 1, 1)] 115 [(0, .ref (b + v0)), (1, .int v1), (2, .ref (b + v2)), (3, .int v3), (4, .int v4), (5, .int v5)] [.int 1, .int ((v1 >>> (((16 + v3) : Int32) &&& 31)) &&& 1)] (by decide +kernel) rfl rfl ?_
  refine jIcmp_ne C 118 147 (by decide +kernel : decode cX0_learnWords 115 = .ok (.if_icmp .ne 32, 3)) rfl rfl (fun c3 => ?_) (fun c3 => ?_)
  · have h := it2 h c3
    refine jB C [(.iinc 3 1, 3, 1)] 150 [(3, .int (v3 + 1)), (0, .ref (b + v0)), (1, .int v1), (2, .ref (b + v2)), (4, .int v4), (5, .int v5)] [] (by decide +kernel) rfl rfl ?_
    refine jGoto C 44 (by decide +kernel : decode cX0_learnWords 150 = .ok (.goto (-106), 3)) rfl ?_
    refine jSub [1, 2, 3, 0] rfl ?_
    exact hk44 (v3 + 1) S2 h
  · have h := it1 h c3
    refine jB C [(.aload_n 0, 1, 0)] 119 [(0, .ref (b + v0)), (1, .int v1), (2, .ref (b + v2)), (3, .int v3), (4, .int v4), (5, .int v5)] [.ref (b + v0)] (by decide +kernel) rfl rfl ?_
    obtain ⟨a4, e_a4, h⟩ := h
    refine jGetR C 122 (by decide +kernel : decode cX0_learnWords 119 = .ok (.getfield 46, 3)) rfl t_v0 kX0 5 (by decide) rfl rfl (by decide) wd_160 e_a4 rfl (fun t_a4 => ?_)
    refine jB C [(.bipush 16, 2, 16), (.iload_n 3, 1, 0), (.iadd, 1, 0), (.iload 4, 2, 0)] 128 [(0, .ref (b + v0)), (1, .int v1), (2, .ref (b + v2)), (3, .int v3), (4, .int v4), (5, .int v5)] [.int v4, .int (16 + v3), .ref (b + a4)] (by decide +kernel) rfl rfl ?_
    refine jIf_eq C 131 145 (by decide +kernel : decode cX0_learnWords 128 = .ok (.ifCond .eq 17, 3)) rfl rfl (fun c5 => ?_) (fun c5 => ?_)
    · have h := it1 h c5
      refine jB C [(.iconst (-1), 1, (-1))] 146 [(0, .ref (b + v0)), (1, .int v1), (2, .ref (b + v2)), (3, .int v3), (4, .int v4), (5, .int v5)] [.int (-1), .int (16 + v3), .ref (b + a4)] (by decide +kernel) rfl rfl ?_
      refine jSub [0, 1, 2, 3] rfl ?_
      exact j_X0_learnWords_146 C hE t_v0 t_v2 t_a4 hk44 h
    · have h := it2 h c5
      refine jB C [(.aload_n 0, 1, 0)] 132 [(0, .ref (b + v0)), (1, .int v1), (2, .ref (b + v2)), (3, .int v3), (4, .int v4), (5, .int v5)] [.ref (b + v0), .int (16 + v3), .ref (b + a4)] (by decide +kernel) rfl rfl ?_
      obtain ⟨a6, e_a6, h⟩ := h
      refine jGetR C 135 (by decide +kernel : decode cX0_learnWords 132 = .ok (.getfield 28, 3)) rfl t_v0 kX0 2 (by decide) rfl rfl (by decide) wd_157 e_a6 rfl (fun t_a6 => ?_)
      refine jB C [(.aload_n 2, 1, 0), (.iload_n 3, 1, 0), (.iload 5, 2, 0)] 139 [(0, .ref (b + v0)), (1, .int v1), (2, .ref (b + v2)), (3, .int v3), (4, .int v4), (5, .int v5)] [.int v5, .int v3, .ref (b + v2), .ref (b + a6), .int (16 + v3), .ref (b + a4)] (by decide +kernel) rfl rfl ?_
      refine jcVN_I C 142 (rest := [.int (16 + v3), .ref (b + a4)]) (ok_X2_deed t_a6 t_v2 h) (by decide +kernel : decode cX0_learnWords 139 = .ok (.invokevirtual 103, 3)) rfl wn_810 wd_428 wp_12 wd_4 wd_429 ⟨rfl, rfl⟩ hd_X2_deed ⟨Nat.le_of_ble_eq_true rfl, Nat.le_of_ble_eq_true rfl⟩ t_a6 kX2 (by decide) rfl rfl rfl (Nat.le_of_ble_eq_true rfl) ⟨Nat.zero_le _, Nat.zero_le _⟩ (fun r8 S7 h => ?_)
      refine jGoto C 146 (by decide +kernel : decode cX0_learnWords 142 = .ok (.goto 4, 3)) rfl ?_
      refine jSub [0, 1, 2, 3] rfl ?_
      exact j_X0_learnWords_146 C hE t_v0 t_v2 t_a4 hk44 h
set_option maxHeartbeats 4000000 in
set_option maxRecDepth 100000 in
theorem j_X0_learnWords_85 {p : Program} {l : Launch} {e : Env} {s : State} {m : MethodId} {args : Array Value} {below : List Frame} {meth : Method} {c : Code} {b : Nat} {D : va_G} {cy : Nat → ClassId} {G : Gm} {k44 : Int32 → St → Prop} {v0 : Nat} {v1 : Int32} {v2 : Nat} {v3 : Int32} {v4 : Int32} {v5 : Int32} {u0 : Int32} {u1 : Int32} {u2 : Nat} {S : St} {Q : St → Prop} (C : CX p s m args meth c b D cy cX0_learnWords RX0 6 none) (hE : s.heap.size + 0 ≤ b + G.2.2) (t_v0 : ok G 0 v0) (t_v2 : ok G 4 v2) (t_u2 : ok G 11 u2) (hk44 : ∀ v3' S, k44 v3' S → J p l e rm_X0_learnWords s m args below meth c b D cy 6 (zV b D cy below args s G Q) 0 0 G S 44 [(0, .ref (b + v0)), (1, .int v1), (2, .ref (b + v2)), (3, .int (v3'))] []) (h : f_X0_learnWords_85 G k44 v0 v1 v2 v3 v4 v5 u0 u1 u2 Q S) : J p l e rm_X0_learnWords s m args below meth c b D cy 6 (zV b D cy below args s G Q) 0 0 G S 85 [(0, .ref (b + v0)), (1, .int v1), (2, .ref (b + v2)), (3, .int v3), (4, .int v4), (5, .int v5)] [.int u0, .int u1, .ref (b + u2)] := by
  unfold f_X0_learnWords_85 at h
  obtain ⟨y1, h⟩ := h
  refine jIast C 86 (by decide +kernel : decode cX0_learnWords 85 = .ok (.iastore, 1)) rfl hE t_u2 y1 ?_
  refine jTopS (fun S2 e_S2 => ?_)
  have h := h S2 e_S2
  refine jB C [(.aload_n 0, 1, 0)] 87 [(0, .ref (b + v0)), (1, .int v1), (2, .ref (b + v2)), (3, .int v3), (4, .int v4), (5, .int v5)] [.ref (b + v0)] (by decide +kernel) rfl rfl ?_
  obtain ⟨a3, e_a3, h⟩ := h
  refine jGetR C 90 (by decide +kernel : decode cX0_learnWords 87 = .ok (.getfield 46, 3)) rfl t_v0 kX0 5 (by decide) rfl rfl (by decide) wd_160 e_a3 rfl (fun t_a3 => ?_)
  refine jB C [(.bipush 10, 2, 10), (.iload_n 3, 1, 0), (.iadd, 1, 0), (.iload 4, 2, 0)] 96 [(0, .ref (b + v0)), (1, .int v1), (2, .ref (b + v2)), (3, .int v3), (4, .int v4), (5, .int v5)] [.int v4, .int (10 + v3), .ref (b + a3)] (by decide +kernel) rfl rfl ?_
  refine jIf_eq C 99 104 (by decide +kernel : decode cX0_learnWords 96 = .ok (.ifCond .eq 8, 3)) rfl rfl (fun c4 => ?_) (fun c4 => ?_)
  · have h := it1 h c4
    refine jB C [(.iconst (-1), 1, (-1))] 105 [(0, .ref (b + v0)), (1, .int v1), (2, .ref (b + v2)), (3, .int v3), (4, .int v4), (5, .int v5)] [.int (-1), .int (10 + v3), .ref (b + a3)] (by decide +kernel) rfl rfl ?_
    refine jSub [0, 1, 2, 3, 4, 5] rfl ?_
    exact j_X0_learnWords_105 C hE t_v0 t_v2 t_a3 hk44 h
  · have h := it2 h c4
    refine jB C [(.iload 5, 2, 0)] 101 [(0, .ref (b + v0)), (1, .int v1), (2, .ref (b + v2)), (3, .int v3), (4, .int v4), (5, .int v5)] [.int v5, .int (10 + v3), .ref (b + a3)] (by decide +kernel) rfl rfl ?_
    refine jGoto C 105 (by decide +kernel : decode cX0_learnWords 101 = .ok (.goto 4, 3)) rfl ?_
    refine jSub [0, 1, 2, 3, 4, 5] rfl ?_
    exact j_X0_learnWords_105 C hE t_v0 t_v2 t_a3 hk44 h
set_option maxHeartbeats 4000000 in
set_option maxRecDepth 100000 in
theorem j_X0_learnWords_44_n {p : Program} {l : Launch} {e : Env} {s : State} {m : MethodId} {args : Array Value} {below : List Frame} {meth : Method} {c : Code} {b : Nat} {D : va_G} {cy : Nat → ClassId} {G : Gm} {v0 : Nat} {v1 : Int32} {v2 : Nat} {Q : St → Prop} (C : CX p s m args meth c b D cy cX0_learnWords RX0 6 none) (hE : s.heap.size + 0 ≤ b + G.2.2) (t_v0 : ok G 0 v0) (t_v2 : ok G 4 v2) : ∀ n (v3 : Int32) S, f_X0_learnWords_44_n G v0 v1 v2 Q n v3 S → J p l e rm_X0_learnWords s m args below meth c b D cy 6 (zV b D cy below args s G Q) 0 0 G S 44 [(0, .ref (b + v0)), (1, .int v1), (2, .ref (b + v2)), (3, .int v3)] [] := by
  intro n
  induction n with
  | zero => intro v3 S h; exact h.elim
  | succ n ih =>
    intro v3 S h
    unfold f_X0_learnWords_44_n at h
    refine jB C [(.iload_n 3, 1, 0), (.bipush 6, 2, 6)] 47 [(0, .ref (b + v0)), (1, .int v1), (2, .ref (b + v2)), (3, .int v3)] [.int 6, .int v3] (by decide +kernel) rfl rfl ?_
    refine jIcmp_ge C 50 153 (by decide +kernel : decode cX0_learnWords 47 = .ok (.if_icmp .ge 106, 3)) rfl rfl (fun c1 => ?_) (fun c1 => ?_)
    · have h := it1 h c1
      exact jRetV C (by decide +kernel : decode cX0_learnWords 153 = .ok (.return_, 1)) (Nat.le_refl _) (Nat.le_refl _) ⟨rfl, h⟩
    · have h := it2 h c1
      refine jB C [(.aload_n 2, 1, 0), (.iload_n 3, 1, 0)] 52 [(0, .ref (b + v0)), (1, .int v1), (2, .ref (b + v2)), (3, .int v3)] [.int v3, .ref (b + v2)] (by decide +kernel) rfl rfl ?_
      refine jcVN_I C 55 (rest := []) (ok_X5_has t_v2 h) (by decide +kernel : decode cX0_learnWords 52 = .ok (.invokevirtual 93, 3)) rfl wn_807 wd_373 wp_4 wd_2 wd_374 ⟨rfl, rfl⟩ hd_X5_has ⟨Nat.le_of_ble_eq_true rfl, Nat.le_of_ble_eq_true rfl⟩ t_v2 kX5 (by decide) rfl rfl rfl (Nat.le_of_ble_eq_true rfl) ⟨Nat.zero_le _, Nat.zero_le _⟩ (fun r3 S2 h => ?_)
      refine jB C [(.istore 4, 2, 0), (.aload_n 2, 1, 0), (.iload_n 3, 1, 0)] 59 [(4, .int r3), (0, .ref (b + v0)), (1, .int v1), (2, .ref (b + v2)), (3, .int v3)] [.int v3, .ref (b + v2)] (by decide +kernel) rfl rfl ?_
      refine jcVN_I C 62 (rest := []) (ok_X5_sightOf t_v2 h) (by decide +kernel : decode cX0_learnWords 59 = .ok (.invokevirtual 97, 3)) rfl wn_808 wd_413 wp_10 wd_2 wd_414 ⟨rfl, rfl⟩ hd_X5_sightOf ⟨Nat.le_of_ble_eq_true rfl, Nat.le_of_ble_eq_true rfl⟩ t_v2 kX5 (by decide) rfl rfl rfl (Nat.le_of_ble_eq_true rfl) ⟨Nat.zero_le _, Nat.zero_le _⟩ (fun r5 S4 h => ?_)
      refine jB C [(.istore 5, 2, 0), (.aload_n 0, 1, 0)] 65 [(5, .int r5), (4, .int r3), (0, .ref (b + v0)), (1, .int v1), (2, .ref (b + v2)), (3, .int v3)] [.ref (b + v0)] (by decide +kernel) rfl rfl ?_
      obtain ⟨a6, e_a6, h⟩ := h
      refine jGetR C 68 (by decide +kernel : decode cX0_learnWords 65 = .ok (.getfield 46, 3)) rfl t_v0 kX0 5 (by decide) rfl rfl (by decide) wd_160 e_a6 rfl (fun t_a6 => ?_)
      refine jB C [(.iconst 4, 1, 4), (.iload_n 3, 1, 0), (.iadd, 1, 0), (.iload 4, 2, 0)] 73 [(5, .int r5), (4, .int r3), (0, .ref (b + v0)), (1, .int v1), (2, .ref (b + v2)), (3, .int v3)] [.int r3, .int (4 + v3), .ref (b + a6)] (by decide +kernel) rfl rfl ?_
      refine jIf_eq C 76 84 (by decide +kernel : decode cX0_learnWords 73 = .ok (.ifCond .eq 11, 3)) rfl rfl (fun c7 => ?_) (fun c7 => ?_)
      · have h := it1 h c7
        refine jB C [(.iconst (-1), 1, (-1))] 85 [(5, .int r5), (4, .int r3), (0, .ref (b + v0)), (1, .int v1), (2, .ref (b + v2)), (3, .int v3)] [.int (-1), .int (4 + v3), .ref (b + a6)] (by decide +kernel) rfl rfl ?_
        refine jSub [2, 3, 4, 5, 1, 0] rfl ?_
        exact j_X0_learnWords_85 C hE t_v0 t_v2 t_a6 ih h
      · have h := it2 h c7
        refine jB C [(.aload_n 2, 1, 0), (.iload_n 3, 1, 0)] 78 [(5, .int r5), (4, .int r3), (0, .ref (b + v0)), (1, .int v1), (2, .ref (b + v2)), (3, .int v3)] [.int v3, .ref (b + v2), .int (4 + v3), .ref (b + a6)] (by decide +kernel) rfl rfl ?_
        refine jcVN_I C 81 (rest := [.int (4 + v3), .ref (b + a6)]) (ok_X5_sinsOf t_v2 h) (by decide +kernel : decode cX0_learnWords 78 = .ok (.invokevirtual 100, 3)) rfl wn_809 wd_436 wp_14 wd_2 wd_437 ⟨rfl, rfl⟩ hd_X5_sinsOf ⟨Nat.le_of_ble_eq_true rfl, Nat.le_of_ble_eq_true rfl⟩ t_v2 kX5 (by decide) rfl rfl rfl (Nat.le_of_ble_eq_true rfl) ⟨Nat.zero_le _, Nat.zero_le _⟩ (fun r9 S8 h => ?_)
        refine jGoto C 85 (by decide +kernel : decode cX0_learnWords 81 = .ok (.goto 4, 3)) rfl ?_
        refine jSub [2, 3, 4, 5, 1, 0] rfl ?_
        exact j_X0_learnWords_85 C hE t_v0 t_v2 t_a6 ih h
theorem j_X0_learnWords_44 {p : Program} {l : Launch} {e : Env} {s : State} {m : MethodId} {args : Array Value} {below : List Frame} {meth : Method} {c : Code} {b : Nat} {D : va_G} {cy : Nat → ClassId} {G : Gm} {v0 : Nat} {v1 : Int32} {v2 : Nat} {v3 : Int32} {S : St} {Q : St → Prop} (C : CX p s m args meth c b D cy cX0_learnWords RX0 6 none) (hE : s.heap.size + 0 ≤ b + G.2.2) (t_v0 : ok G 0 v0) (t_v2 : ok G 4 v2) (h : f_X0_learnWords_44 G v0 v1 v2 Q v3 S) : J p l e rm_X0_learnWords s m args below meth c b D cy 6 (zV b D cy below args s G Q) 0 0 G S 44 [(0, .ref (b + v0)), (1, .int v1), (2, .ref (b + v2)), (3, .int v3)] [] := by
  obtain ⟨n, h⟩ := h
  exact j_X0_learnWords_44_n C hE t_v0 t_v2 n v3 S h
set_option maxHeartbeats 4000000 in
set_option maxRecDepth 100000 in
theorem j_X0_learnWords {p : Program} {l : Launch} {e : Env} {s : State} {m : MethodId} {args : Array Value} {below : List Frame} {meth : Method} {c : Code} {b : Nat} {D : va_G} {cy : Nat → ClassId} {G : Gm} {v0 : Nat} {v1 : Int32} {v2 : Nat} {S : St} {Q : St → Prop} (C : CX p s m args meth c b D cy cX0_learnWords RX0 6 none) (hE : s.heap.size + 0 ≤ b + G.2.2) (t_v0 : ok G 0 v0) (t_v2 : ok G 4 v2) (h : f_X0_learnWords G v0 v1 v2 Q S) : J p l e rm_X0_learnWords s m args below meth c b D cy 6 (zV b D cy below args s G Q) 0 0 G S 0 [(0, .ref (b + v0)), (1, .int v1), (2, .ref (b + v2))] [] := by
  unfold f_X0_learnWords at h
  refine jB C [(.aload_n 0, 1, 0)] 1 [(0, .ref (b + v0)), (1, .int v1), (2, .ref (b + v2))] [.ref (b + v0)] (by decide +kernel) rfl rfl ?_
  obtain ⟨a1, e_a1, h⟩ := h
  refine jGetR C 4 (by decide +kernel : decode cX0_learnWords 1 = .ok (.getfield 46, 3)) rfl t_v0 kX0 5 (by decide) rfl rfl (by decide) wd_160 e_a1 rfl (fun t_a1 => ?_)
  refine jB C [(.iconst 0, 1, 0), (.aload_n 2, 1, 0), (.iconst 0, 1, 0)] 7 [(0, .ref (b + v0)), (1, .int v1), (2, .ref (b + v2))] [.int 0, .ref (b + v2), .int 0, .ref (b + a1)] (by decide +kernel) rfl rfl ?_
  refine jcVN_I C 10 (rest := [.int 0, .ref (b + a1)]) (ok_X5_termOf t_v2 h) (by decide +kernel : decode cX0_learnWords 7 = .ok (.invokevirtual 90, 3)) rfl wn_806 wd_418 wp_11 wd_2 wd_419 ⟨rfl, rfl⟩ hd_X5_termOf ⟨Nat.le_of_ble_eq_true rfl, Nat.le_of_ble_eq_true rfl⟩ t_v2 kX5 (by decide) rfl rfl rfl (Nat.le_of_ble_eq_true rfl) ⟨Nat.zero_le _, Nat.zero_le _⟩ (fun r3 S2 h => ?_)
  obtain ⟨y4, h⟩ := h
  refine jIast C 11 (by decide +kernel : decode cX0_learnWords 10 = .ok (.iastore, 1)) rfl hE t_a1 y4 ?_
  refine jTopS (fun S5 e_S5 => ?_)
  have h := h S5 e_S5
  refine jB C [(.aload_n 0, 1, 0)] 12 [(0, .ref (b + v0)), (1, .int v1), (2, .ref (b + v2))] [.ref (b + v0)] (by decide +kernel) rfl rfl ?_
  obtain ⟨a6, e_a6, h⟩ := h
  refine jGetR C 15 (by decide +kernel : decode cX0_learnWords 12 = .ok (.getfield 46, 3)) rfl t_v0 kX0 5 (by decide) rfl rfl (by decide) wd_160 e_a6 rfl (fun t_a6 => ?_)
  refine jB C [(.iconst 1, 1, 1), (.aload_n 0, 1, 0)] 17 [(0, .ref (b + v0)), (1, .int v1), (2, .ref (b + v2))] [.ref (b + v0), .int 1, .ref (b + a6)] (by decide +kernel) rfl rfl ?_
  refine jGetI C 20 (by decide +kernel : decode cX0_learnWords 17 = .ok (.getfield 57, 3)) rfl t_v0 kX0 6 (by decide) rfl rfl (by decide) wd_161 ?_
  obtain ⟨y7, h⟩ := h
  refine jIast C 21 (by decide +kernel : decode cX0_learnWords 20 = .ok (.iastore, 1)) rfl hE t_a6 y7 ?_
  refine jTopS (fun S8 e_S8 => ?_)
  have h := h S8 e_S8
  refine jB C [(.aload_n 0, 1, 0)] 22 [(0, .ref (b + v0)), (1, .int v1), (2, .ref (b + v2))] [.ref (b + v0)] (by decide +kernel) rfl rfl ?_
  obtain ⟨a9, e_a9, h⟩ := h
  refine jGetR C 25 (by decide +kernel : decode cX0_learnWords 22 = .ok (.getfield 46, 3)) rfl t_v0 kX0 5 (by decide) rfl rfl (by decide) wd_160 e_a9 rfl (fun t_a9 => ?_)
  refine jB C [(.iconst 2, 1, 2), (.aload_n 0, 1, 0)] 27 [(0, .ref (b + v0)), (1, .int v1), (2, .ref (b + v2))] [.ref (b + v0), .int 2, .ref (b + a9)] (by decide +kernel) rfl rfl ?_
  refine jGetI C 30 (by decide +kernel : decode cX0_learnWords 27 = .ok (.getfield 61, 3)) rfl t_v0 kX0 7 (by decide) rfl rfl (by decide) wd_163 ?_
  obtain ⟨y10, h⟩ := h
  refine jIast C 31 (by decide +kernel : decode cX0_learnWords 30 = .ok (.iastore, 1)) rfl hE t_a9 y10 ?_
  refine jTopS (fun S11 e_S11 => ?_)
  have h := h S11 e_S11
  refine jB C [(.aload_n 0, 1, 0)] 32 [(0, .ref (b + v0)), (1, .int v1), (2, .ref (b + v2))] [.ref (b + v0)] (by decide +kernel) rfl rfl ?_
  obtain ⟨a12, e_a12, h⟩ := h
  refine jGetR C 35 (by decide +kernel : decode cX0_learnWords 32 = .ok (.getfield 46, 3)) rfl t_v0 kX0 5 (by decide) rfl rfl (by decide) wd_160 e_a12 rfl (fun t_a12 => ?_)
  refine jB C [(.iconst 3, 1, 3), (.aload_n 2, 1, 0), (.iconst 3, 1, 3)] 38 [(0, .ref (b + v0)), (1, .int v1), (2, .ref (b + v2))] [.int 3, .ref (b + v2), .int 3, .ref (b + a12)] (by decide +kernel) rfl rfl ?_
  refine jcVN_I C 41 (rest := [.int 3, .ref (b + a12)]) (ok_X5_termOf t_v2 h) (by decide +kernel : decode cX0_learnWords 38 = .ok (.invokevirtual 90, 3)) rfl wn_806 wd_418 wp_11 wd_2 wd_419 ⟨rfl, rfl⟩ hd_X5_termOf ⟨Nat.le_of_ble_eq_true rfl, Nat.le_of_ble_eq_true rfl⟩ t_v2 kX5 (by decide) rfl rfl rfl (Nat.le_of_ble_eq_true rfl) ⟨Nat.zero_le _, Nat.zero_le _⟩ (fun r14 S13 h => ?_)
  obtain ⟨y15, h⟩ := h
  refine jIast C 42 (by decide +kernel : decode cX0_learnWords 41 = .ok (.iastore, 1)) rfl hE t_a12 y15 ?_
  refine jTopS (fun S16 e_S16 => ?_)
  have h := h S16 e_S16
  refine jB C [(.iconst 0, 1, 0), (.istore_n 3, 1, 0)] 44 [(3, .int 0), (0, .ref (b + v0)), (1, .int v1), (2, .ref (b + v2))] [] (by decide +kernel) rfl rfl ?_
  refine jSub [1, 2, 3, 0] rfl ?_
  exact j_X0_learnWords_44 C hE t_v0 t_v2 h
theorem ok_X0_learnWords {G : Gm} {v0 : Nat} {v1 : Int32} {v2 : Nat} {S : St} {Q : St → Prop} (t_v0 : ok G 0 v0) (t_v2 : ok G 4 v2) (h : f_X0_learnWords G v0 v1 v2 Q S) : MT yX0_learnWords cX0_learnWords 6 none rm_X0_learnWords 0 0 (fun b => [.ref (b + v0), .int v1, .ref (b + v2)]) G S (QV (fun G1 S1 => G1 = G ∧ Q S1)) := MT.ofJ (by decide) (fun b => [(0, .ref (b + v0)), (1, .int v1), (2, .ref (b + v2))]) (fun b => rfl) (fun b => Nat.le_of_ble_eq_true rfl) (fun l b D cy p e s m below meth c C hE hn => j_X0_learnWords C hE t_v0 t_v2 h)
theorem hd_X0_learnWords : yX0_learnWords.cls ≠ "java/lang/invoke/MethodHandle" ∧ yX0_learnWords.cls ≠ "java/lang/invoke/VarHandle" ∧ (parseMethodDescriptor yX0_learnWords.desc).map (fun d => d.parameters.length) = some 2 := by decide +kernel
def f_X8_usesOf (G : Gm) (v0 : Nat) (v1 : Int32) (Q : Int32 → St → Prop) (S : St) : Prop :=
  (if v1 < 0 then Q 0 S else (∃ a2, S.2.2 v0 2 = some a2 ∧ (if (nI (G.2.1 a2)) ≤ v1 then Q 0 S else (∃ a4, S.2.2 v0 2 = some a4 ∧ (vp_in v1 (G.2.1 a4) ∧ Q (S.1 a4 v1.toNatClampNeg) S)))))
abbrev rm_X8_usesOf : Room := { frames := 0, cells := 0, slots := 0, locals := 0 }
set_option maxHeartbeats 4000000 in
set_option maxRecDepth 100000 in
theorem j_X8_usesOf {p : Program} {l : Launch} {e : Env} {s : State} {m : MethodId} {args : Array Value} {below : List Frame} {meth : Method} {c : Code} {b : Nat} {D : va_G} {cy : Nat → ClassId} {G : Gm} {v0 : Nat} {v1 : Int32} {S : St} {Q : Int32 → St → Prop} (C : CX p s m args meth c b D cy cX8_usesOf RX8 2 (some .int)) (hE : s.heap.size + 0 ≤ b + G.2.2) (t_v0 : ok G 7 v0) (h : f_X8_usesOf G v0 v1 Q S) : J p l e rm_X8_usesOf s m args below meth c b D cy 2 (zI b D cy below args s G Q) 0 0 G S 0 [(0, .ref (b + v0)), (1, .int v1)] [] := by
  unfold f_X8_usesOf at h
  refine jB C [(.iload_n 1, 1, 0)] 1 [(0, .ref (b + v0)), (1, .int v1)] [.int v1] (by decide +kernel) rfl rfl ?_
  refine jIf_lt C 4 22 (by decide +kernel : decode cX8_usesOf 1 = .ok (.ifCond .lt 21, 3)) rfl rfl (fun c1 => ?_) (fun c1 => ?_)
  · have h := it1 h c1
    refine jB C [(.iconst 0, 1, 0)] 23 [(0, .ref (b + v0)), (1, .int v1)] [.int 0] (by decide +kernel) rfl rfl ?_
    exact jRetI C (by decide +kernel : decode cX8_usesOf 23 = .ok (.ireturn, 1)) (Nat.le_refl _) (Nat.le_refl _) ⟨rfl, h⟩
  · have h := it2 h c1
    refine jB C [(.iload_n 1, 1, 0), (.aload_n 0, 1, 0)] 6 [(0, .ref (b + v0)), (1, .int v1)] [.ref (b + v0), .int v1] (by decide +kernel) rfl rfl ?_
    obtain ⟨a2, e_a2, h⟩ := h
    refine jGetR C 9 (by decide +kernel : decode cX8_usesOf 6 = .ok (.getfield 22, 3)) rfl t_v0 kX8 2 (by decide) rfl rfl (by decide) wd_251 e_a2 rfl (fun t_a2 => ?_)
    refine jAlen11 C 10 (by decide +kernel : decode cX8_usesOf 9 = .ok (.arraylength, 1)) rfl t_a2 ?_
    refine jIcmp_ge C 13 22 (by decide +kernel : decode cX8_usesOf 10 = .ok (.if_icmp .ge 12, 3)) rfl rfl (fun c3 => ?_) (fun c3 => ?_)
    · have h := it1 h c3
      refine jB C [(.iconst 0, 1, 0)] 23 [(0, .ref (b + v0)), (1, .int v1)] [.int 0] (by decide +kernel) rfl rfl ?_
      exact jRetI C (by decide +kernel : decode cX8_usesOf 23 = .ok (.ireturn, 1)) (Nat.le_refl _) (Nat.le_refl _) ⟨rfl, h⟩
    · have h := it2 h c3
      refine jB C [(.aload_n 0, 1, 0)] 14 [(0, .ref (b + v0)), (1, .int v1)] [.ref (b + v0)] (by decide +kernel) rfl rfl ?_
      obtain ⟨a4, e_a4, h⟩ := h
      refine jGetR C 17 (by decide +kernel : decode cX8_usesOf 14 = .ok (.getfield 22, 3)) rfl t_v0 kX8 2 (by decide) rfl rfl (by decide) wd_251 e_a4 rfl (fun t_a4 => ?_)
      refine jB C [(.iload_n 1, 1, 0)] 18 [(0, .ref (b + v0)), (1, .int v1)] [.int v1, .ref (b + a4)] (by decide +kernel) rfl rfl ?_
      obtain ⟨y5, h⟩ := h
      refine jIald C 19 (by decide +kernel : decode cX8_usesOf 18 = .ok (.iaload, 1)) rfl t_a4 y5 ?_
      refine jGoto C 23 (by decide +kernel : decode cX8_usesOf 19 = .ok (.goto 4, 3)) rfl ?_
      exact jRetI C (by decide +kernel : decode cX8_usesOf 23 = .ok (.ireturn, 1)) (Nat.le_refl _) (Nat.le_refl _) ⟨rfl, h⟩
theorem ok_X8_usesOf {G : Gm} {v0 : Nat} {v1 : Int32} {S : St} {Q : Int32 → St → Prop} (t_v0 : ok G 7 v0) (h : f_X8_usesOf G v0 v1 Q S) : MT yX8_usesOf cX8_usesOf 2 (some .int) rm_X8_usesOf 0 0 (fun b => [.ref (b + v0), .int v1]) G S (QI (fun r G1 S1 => G1 = G ∧ Q r S1)) := MT.ofJ (by decide) (fun b => [(0, .ref (b + v0)), (1, .int v1)]) (fun b => rfl) (fun b => Nat.le_of_ble_eq_true rfl) (fun l b D cy p e s m below meth c C hE hn => j_X8_usesOf C hE t_v0 h)
theorem hd_X8_usesOf : yX8_usesOf.cls ≠ "java/lang/invoke/MethodHandle" ∧ yX8_usesOf.cls ≠ "java/lang/invoke/VarHandle" ∧ (parseMethodDescriptor yX8_usesOf.desc).map (fun d => d.parameters.length) = some 1 := by decide +kernel
def f_X10_isKind (G : Gm) (v0 : Int32) (Q : Int32 → St → Prop) (S : St) : Prop :=
  (if v0 < 0 then Q 0 S else (if 4 ≤ v0 then Q 0 S else Q 1 S))
abbrev rm_X10_isKind : Room := { frames := 0, cells := 0, slots := 0, locals := 0 }
set_option maxHeartbeats 4000000 in
set_option maxRecDepth 100000 in
theorem j_X10_isKind {p : Program} {l : Launch} {e : Env} {s : State} {m : MethodId} {args : Array Value} {below : List Frame} {meth : Method} {c : Code} {b : Nat} {D : va_G} {cy : Nat → ClassId} {G : Gm} {v0 : Int32} {S : St} {Q : Int32 → St → Prop} (C : CX p s m args meth c b D cy cX10_isKind RX10 1 (some .boolean)) (hE : s.heap.size + 0 ≤ b + G.2.2) (h : f_X10_isKind G v0 Q S) : J p l e rm_X10_isKind s m args below meth c b D cy 1 (zI b D cy below args s G Q) 0 0 G S 0 [(0, .int v0)] [] := by
  unfold f_X10_isKind at h
  refine jB C [(.iload_n 0, 1, 0)] 1 [(0, .int v0)] [.int v0] (by decide +kernel) rfl rfl ?_
  refine jIf_lt C 4 13 (by decide +kernel : decode cX10_isKind 1 = .ok (.ifCond .lt 12, 3)) rfl rfl (fun c1 => ?_) (fun c1 => ?_)
  · have h := it1 h c1
    refine jB C [(.iconst 0, 1, 0)] 14 [(0, .int v0)] [.int 0] (by decide +kernel) rfl rfl ?_
    exact jRetZ C (by decide +kernel : decode cX10_isKind 14 = .ok (.ireturn, 1)) (Nat.le_refl _) (Nat.le_refl _) (by decide) ⟨rfl, h⟩
  · have h := it2 h c1
    refine jB C [(.iload_n 0, 1, 0), (.iconst 4, 1, 4)] 6 [(0, .int v0)] [.int 4, .int v0] (by decide +kernel) rfl rfl ?_
    refine jIcmp_ge C 9 13 (by decide +kernel : decode cX10_isKind 6 = .ok (.if_icmp .ge 7, 3)) rfl rfl (fun c2 => ?_) (fun c2 => ?_)
    · have h := it1 h c2
      refine jB C [(.iconst 0, 1, 0)] 14 [(0, .int v0)] [.int 0] (by decide +kernel) rfl rfl ?_
      exact jRetZ C (by decide +kernel : decode cX10_isKind 14 = .ok (.ireturn, 1)) (Nat.le_refl _) (Nat.le_refl _) (by decide) ⟨rfl, h⟩
    · have h := it2 h c2
      refine jB C [(.iconst 1, 1, 1)] 10 [(0, .int v0)] [.int 1] (by decide +kernel) rfl rfl ?_
      refine jGoto C 14 (by decide +kernel : decode cX10_isKind 10 = .ok (.goto 4, 3)) rfl ?_
      exact jRetZ C (by decide +kernel : decode cX10_isKind 14 = .ok (.ireturn, 1)) (Nat.le_refl _) (Nat.le_refl _) (by decide) ⟨rfl, h⟩
theorem ok_X10_isKind {G : Gm} {v0 : Int32} {S : St} {Q : Int32 → St → Prop} (h : f_X10_isKind G v0 Q S) : MT yX10_isKind cX10_isKind 1 (some .boolean) rm_X10_isKind 0 0 (fun b => [.int v0]) G S (QI (fun r G1 S1 => G1 = G ∧ Q r S1)) := MT.ofJ (by decide) (fun b => [(0, .int v0)]) (fun b => rfl) (fun b => Nat.le_of_ble_eq_true rfl) (fun l b D cy p e s m below meth c C hE hn => j_X10_isKind C hE h)
theorem hd_X10_isKind : yX10_isKind.cls ≠ "java/lang/invoke/MethodHandle" ∧ yX10_isKind.cls ≠ "java/lang/invoke/VarHandle" ∧ (parseMethodDescriptor yX10_isKind.desc).map (fun d => d.parameters.length) = some 1 := by decide +kernel
def f_X5_sinOf (G : Gm) (v0 : Nat) (v1 : Int32) (v2 : Int32) (Q : Int32 → St → Prop) (S : St) : Prop :=
  f_X5_has G v0 v1 (fun r2 S1 => (if r2 = 0 then Q 0 S1 else f_X10_isKind G v2 (fun r5 S4 => (if r5 = 0 then Q 0 S4 else (∃ a7, S4.2.2 v0 1 = some a7 ∧ (vp_in ((v1 * 4) + v2) (G.2.1 a7) ∧ Q (S4.1 a7 ((v1 * 4) + v2).toNatClampNeg) S4)))) S1)) S
abbrev rm_X5_sinOf : Room := { frames := 1, cells := 0, slots := 0, locals := 21 }
set_option maxHeartbeats 4000000 in
set_option maxRecDepth 100000 in
theorem j_X5_sinOf {p : Program} {l : Launch} {e : Env} {s : State} {m : MethodId} {args : Array Value} {below : List Frame} {meth : Method} {c : Code} {b : Nat} {D : va_G} {cy : Nat → ClassId} {G : Gm} {v0 : Nat} {v1 : Int32} {v2 : Int32} {S : St} {Q : Int32 → St → Prop} (C : CX p s m args meth c b D cy cX5_sinOf RX5 3 (some .int)) (hE : s.heap.size + 0 ≤ b + G.2.2) (t_v0 : ok G 4 v0) (h : f_X5_sinOf G v0 v1 v2 Q S) : J p l e rm_X5_sinOf s m args below meth c b D cy 3 (zI b D cy below args s G Q) 0 0 G S 0 [(0, .ref (b + v0)), (1, .int v1), (2, .int v2)] [] := by
  unfold f_X5_sinOf at h
  refine jB C [(.aload_n 0, 1, 0), (.iload_n 1, 1, 0)] 2 [(0, .ref (b + v0)), (1, .int v1), (2, .int v2)] [.int v1, .ref (b + v0)] (by decide +kernel) rfl rfl ?_
  refine jcV_I C 5 (rest := []) (ok_X5_has t_v0 h) (by decide +kernel : decode cX5_sinOf 2 = .ok (.invokevirtual 66, 3)) rfl wd_371 wd_373 wp_4 wd_2 wd_374 ⟨rfl, rfl⟩ hd_X5_has ⟨Nat.le_of_ble_eq_true rfl, Nat.le_of_ble_eq_true rfl⟩ t_v0 kX5 (by decide) rfl rfl rfl (Nat.le_of_ble_eq_true rfl) ⟨Nat.zero_le _, Nat.zero_le _⟩ (fun r2 S1 h => ?_)
  refine jIf_eq C 8 28 (by decide +kernel : decode cX5_sinOf 5 = .ok (.ifCond .eq 23, 3)) rfl rfl (fun c3 => ?_) (fun c3 => ?_)
  · have h := it1 h c3
    refine jB C [(.iconst 0, 1, 0)] 29 [(0, .ref (b + v0)), (1, .int v1), (2, .int v2)] [.int 0] (by decide +kernel) rfl rfl ?_
    exact jRetI C (by decide +kernel : decode cX5_sinOf 29 = .ok (.ireturn, 1)) (Nat.le_refl _) (Nat.le_refl _) ⟨rfl, h⟩
  · have h := it2 h c3
    refine jB C [(.iload_n 2, 1, 0)] 9 [(0, .ref (b + v0)), (1, .int v1), (2, .int v2)] [.int v2] (by decide +kernel) rfl rfl ?_
    refine jcSN_I C 12 (rest := []) (ok_X10_isKind h) (by decide +kernel : decode cX5_sinOf 9 = .ok (.invokestatic 70, 3)) rfl wn_375 wd_376 wd_1 wd_377 ⟨rfl, rfl⟩ hd_X10_isKind ⟨Nat.le_of_ble_eq_true rfl, Nat.le_of_ble_eq_true rfl⟩ rfl rfl (Nat.le_of_ble_eq_true rfl) ⟨Nat.zero_le _, Nat.zero_le _⟩ (fun r5 S4 h => ?_)
    refine jIf_eq C 15 28 (by decide +kernel : decode cX5_sinOf 12 = .ok (.ifCond .eq 16, 3)) rfl rfl (fun c6 => ?_) (fun c6 => ?_)
    · have h := it1 h c6
      refine jB C [(.iconst 0, 1, 0)] 29 [(0, .ref (b + v0)), (1, .int v1), (2, .int v2)] [.int 0] (by decide +kernel) rfl rfl ?_
      exact jRetI C (by decide +kernel : decode cX5_sinOf 29 = .ok (.ireturn, 1)) (Nat.le_refl _) (Nat.le_refl _) ⟨rfl, h⟩
    · have h := it2 h c6
      refine jB C [(.aload_n 0, 1, 0)] 16 [(0, .ref (b + v0)), (1, .int v1), (2, .int v2)] [.ref (b + v0)] (by decide +kernel) rfl rfl ?_
      obtain ⟨a7, e_a7, h⟩ := h
      refine jGetR C 19 (by decide +kernel : decode cX5_sinOf 16 = .ok (.getfield 9, 3)) rfl t_v0 kX5 1 (by decide) rfl rfl (by decide) wd_40 e_a7 rfl (fun t_a7 => ?_)
      refine jB C [(.iload_n 1, 1, 0), (.iconst 4, 1, 4), (.imul, 1, 0), (.iload_n 2, 1, 0), (.iadd, 1, 0)] 24 [(0, .ref (b + v0)), (1, .int v1), (2, .int v2)] [.int ((v1 * 4) + v2), .ref (b + a7)] (by decide +kernel) rfl rfl ?_
      obtain ⟨y8, h⟩ := h
      refine jIald C 25 (by decide +kernel : decode cX5_sinOf 24 = .ok (.iaload, 1)) rfl t_a7 y8 ?_
      refine jGoto C 29 (by decide +kernel : decode cX5_sinOf 25 = .ok (.goto 4, 3)) rfl ?_
      exact jRetI C (by decide +kernel : decode cX5_sinOf 29 = .ok (.ireturn, 1)) (Nat.le_refl _) (Nat.le_refl _) ⟨rfl, h⟩
theorem ok_X5_sinOf {G : Gm} {v0 : Nat} {v1 : Int32} {v2 : Int32} {S : St} {Q : Int32 → St → Prop} (t_v0 : ok G 4 v0) (h : f_X5_sinOf G v0 v1 v2 Q S) : MT yX5_sinOf cX5_sinOf 3 (some .int) rm_X5_sinOf 0 0 (fun b => [.ref (b + v0), .int v1, .int v2]) G S (QI (fun r G1 S1 => G1 = G ∧ Q r S1)) := MT.ofJ (by decide) (fun b => [(0, .ref (b + v0)), (1, .int v1), (2, .int v2)]) (fun b => rfl) (fun b => Nat.le_of_ble_eq_true rfl) (fun l b D cy p e s m below meth c C hE hn => j_X5_sinOf C hE t_v0 h)
theorem hd_X5_sinOf : yX5_sinOf.cls ≠ "java/lang/invoke/MethodHandle" ∧ yX5_sinOf.cls ≠ "java/lang/invoke/VarHandle" ∧ (parseMethodDescriptor yX5_sinOf.desc).map (fun d => d.parameters.length) = some 2 := by decide +kernel
def f_X1_refusalOfSin (G : Gm) (v0 : Nat) (v1 : Int32) (v2 : Int32) (v3 : Int32) (Q : Int32 → St → Prop) (S : St) : Prop :=
  f_X10_isKind G v2 (fun r2 S1 => (if r2 = 0 then Q (-1) S1 else (if v3 < (-8) then Q (-1) S1 else (if v3 ≤ 8 then f_X5_has G v0 v1 (fun r7 S6 => (if r7 = 0 then Q (-2) S6 else f_X5_sinOf G v0 v1 v2 (fun r10 S9 => (∀ x11 : Int32, x11 = r10 + v3 → (if x11 < 0 then Q (-3) S9 else (if x11 ≤ 8 then Q 0 S9 else Q (-3) S9)))) S6)) S1 else Q (-1) S1)))) S
abbrev rm_X1_refusalOfSin : Room := { frames := 2, cells := 0, slots := 0, locals := 43 }
set_option maxHeartbeats 4000000 in
set_option maxRecDepth 100000 in
theorem j_X1_refusalOfSin {p : Program} {l : Launch} {e : Env} {s : State} {m : MethodId} {args : Array Value} {below : List Frame} {meth : Method} {c : Code} {b : Nat} {D : va_G} {cy : Nat → ClassId} {G : Gm} {v0 : Nat} {v1 : Int32} {v2 : Int32} {v3 : Int32} {S : St} {Q : Int32 → St → Prop} (C : CX p s m args meth c b D cy cX1_refusalOfSin RX1 5 (some .int)) (hE : s.heap.size + 0 ≤ b + G.2.2) (t_v0 : ok G 4 v0) (h : f_X1_refusalOfSin G v0 v1 v2 v3 Q S) : J p l e rm_X1_refusalOfSin s m args below meth c b D cy 5 (zI b D cy below args s G Q) 0 0 G S 0 [(0, .ref (b + v0)), (1, .int v1), (2, .int v2), (3, .int v3)] [] := by
  unfold f_X1_refusalOfSin at h
  refine jB C [(.iload_n 2, 1, 0)] 1 [(0, .ref (b + v0)), (1, .int v1), (2, .int v2), (3, .int v3)] [.int v2] (by decide +kernel) rfl rfl ?_
  refine jcSN_I C 4 (rest := []) (ok_X10_isKind h) (by decide +kernel : decode cX1_refusalOfSin 1 = .ok (.invokestatic 90, 3)) rfl wn_826 wd_376 wd_1 wd_377 ⟨rfl, rfl⟩ hd_X10_isKind ⟨Nat.le_of_ble_eq_true rfl, Nat.le_of_ble_eq_true rfl⟩ rfl rfl (Nat.le_of_ble_eq_true rfl) ⟨Nat.zero_le _, Nat.zero_le _⟩ (fun r2 S1 h => ?_)
  refine jIf_eq C 7 19 (by decide +kernel : decode cX1_refusalOfSin 4 = .ok (.ifCond .eq 15, 3)) rfl rfl (fun c3 => ?_) (fun c3 => ?_)
  · have h := it1 h c3
    refine jB C [(.iconst (-1), 1, (-1))] 20 [(0, .ref (b + v0)), (1, .int v1), (2, .int v2), (3, .int v3)] [.int (-1)] (by decide +kernel) rfl rfl ?_
    exact jRetI C (by decide +kernel : decode cX1_refusalOfSin 20 = .ok (.ireturn, 1)) (Nat.le_refl _) (Nat.le_refl _) ⟨rfl, h⟩
  · have h := it2 h c3
    refine jB C [(.iload_n 3, 1, 0), (.bipush (-8), 2, (-8))] 10 [(0, .ref (b + v0)), (1, .int v1), (2, .int v2), (3, .int v3)] [.int (-8), .int v3] (by decide +kernel) rfl rfl ?_
    refine jIcmp_lt C 13 19 (by decide +kernel : decode cX1_refusalOfSin 10 = .ok (.if_icmp .lt 9, 3)) rfl rfl (fun c4 => ?_) (fun c4 => ?_)
    · have h := it1 h c4
      refine jB C [(.iconst (-1), 1, (-1))] 20 [(0, .ref (b + v0)), (1, .int v1), (2, .int v2), (3, .int v3)] [.int (-1)] (by decide +kernel) rfl rfl ?_
      exact jRetI C (by decide +kernel : decode cX1_refusalOfSin 20 = .ok (.ireturn, 1)) (Nat.le_refl _) (Nat.le_refl _) ⟨rfl, h⟩
    · have h := it2 h c4
      refine jB C [(.iload_n 3, 1, 0), (.bipush 8, 2, 8)] 16 [(0, .ref (b + v0)), (1, .int v1), (2, .int v2), (3, .int v3)] [.int 8, .int v3] (by decide +kernel) rfl rfl ?_
      refine jIcmp_le C 19 21 (by decide +kernel : decode cX1_refusalOfSin 16 = .ok (.if_icmp .le 5, 3)) rfl rfl (fun c5 => ?_) (fun c5 => ?_)
      · have h := it1 h c5
        refine jB C [(.aload_n 0, 1, 0), (.iload_n 1, 1, 0)] 23 [(0, .ref (b + v0)), (1, .int v1), (2, .int v2), (3, .int v3)] [.int v1, .ref (b + v0)] (by decide +kernel) rfl rfl ?_
        refine jcVN_I C 26 (rest := []) (ok_X5_has t_v0 h) (by decide +kernel : decode cX1_refusalOfSin 23 = .ok (.invokevirtual 79, 3)) rfl wn_827 wd_373 wp_4 wd_2 wd_374 ⟨rfl, rfl⟩ hd_X5_has ⟨Nat.le_of_ble_eq_true rfl, Nat.le_of_ble_eq_true rfl⟩ t_v0 kX5 (by decide) rfl rfl rfl (Nat.le_of_ble_eq_true rfl) ⟨Nat.zero_le _, Nat.zero_le _⟩ (fun r7 S6 h => ?_)
        refine jIf_ne C 29 32 (by decide +kernel : decode cX1_refusalOfSin 26 = .ok (.ifCond .ne 6, 3)) rfl rfl (fun c8 => ?_) (fun c8 => ?_)
        · have h := it2 h c8
          refine jB C [(.aload_n 0, 1, 0), (.iload_n 1, 1, 0), (.iload_n 2, 1, 0)] 35 [(0, .ref (b + v0)), (1, .int v1), (2, .int v2), (3, .int v3)] [.int v2, .int v1, .ref (b + v0)] (by decide +kernel) rfl rfl ?_
          refine jcVN_I C 38 (rest := []) (ok_X5_sinOf t_v0 h) (by decide +kernel : decode cX1_refusalOfSin 35 = .ok (.invokevirtual 32, 3)) rfl wn_828 wd_398 wp_8 wd_2 wd_399 ⟨rfl, rfl⟩ hd_X5_sinOf ⟨Nat.le_of_ble_eq_true rfl, Nat.le_of_ble_eq_true rfl⟩ t_v0 kX5 (by decide) rfl rfl rfl (Nat.le_of_ble_eq_true rfl) ⟨Nat.zero_le _, Nat.zero_le _⟩ (fun r10 S9 h => ?_)
          refine jB C [(.iload_n 3, 1, 0), (.iadd, 1, 0)] 40 [(0, .ref (b + v0)), (1, .int v1), (2, .int v2), (3, .int v3)] [.int (r10 + v3)] (by decide +kernel) rfl rfl ?_
          refine jTopI (fun x11 e_x11 => ?_)
          have h := h x11 e_x11
          refine jB C [(.istore 4, 2, 0), (.iload 4, 2, 0)] 44 [(4, .int x11), (0, .ref (b + v0)), (1, .int v1), (2, .int v2), (3, .int v3)] [.int x11] (by decide +kernel) rfl rfl ?_
          refine jIf_lt C 47 54 (by decide +kernel : decode cX1_refusalOfSin 44 = .ok (.ifCond .lt 10, 3)) rfl rfl (fun c12 => ?_) (fun c12 => ?_)
          · have h := it1 h c12
            refine jB C [(.bipush (-3), 2, (-3))] 56 [(4, .int x11), (0, .ref (b + v0)), (1, .int v1), (2, .int v2), (3, .int v3)] [.int (-3)] (by decide +kernel) rfl rfl ?_
            refine jGoto C 60 (by decide +kernel : decode cX1_refusalOfSin 56 = .ok (.goto 4, 3)) rfl ?_
            exact jRetI C (by decide +kernel : decode cX1_refusalOfSin 60 = .ok (.ireturn, 1)) (Nat.le_refl _) (Nat.le_refl _) ⟨rfl, h⟩
          · have h := it2 h c12
            refine jB C [(.iload 4, 2, 0), (.bipush 8, 2, 8)] 51 [(4, .int x11), (0, .ref (b + v0)), (1, .int v1), (2, .int v2), (3, .int v3)] [.int 8, .int x11] (by decide +kernel) rfl rfl ?_
            refine jIcmp_le C 54 59 (by decide +kernel : decode cX1_refusalOfSin 51 = .ok (.if_icmp .le 8, 3)) rfl rfl (fun c13 => ?_) (fun c13 => ?_)
            · have h := it1 h c13
              refine jB C [(.iconst 0, 1, 0)] 60 [(4, .int x11), (0, .ref (b + v0)), (1, .int v1), (2, .int v2), (3, .int v3)] [.int 0] (by decide +kernel) rfl rfl ?_
              exact jRetI C (by decide +kernel : decode cX1_refusalOfSin 60 = .ok (.ireturn, 1)) (Nat.le_refl _) (Nat.le_refl _) ⟨rfl, h⟩
            · have h := it2 h c13
              refine jB C [(.bipush (-3), 2, (-3))] 56 [(4, .int x11), (0, .ref (b + v0)), (1, .int v1), (2, .int v2), (3, .int v3)] [.int (-3)] (by decide +kernel) rfl rfl ?_
              refine jGoto C 60 (by decide +kernel : decode cX1_refusalOfSin 56 = .ok (.goto 4, 3)) rfl ?_
              exact jRetI C (by decide +kernel : decode cX1_refusalOfSin 60 = .ok (.ireturn, 1)) (Nat.le_refl _) (Nat.le_refl _) ⟨rfl, h⟩
        · have h := it1 h c8
          refine jB C [(.bipush (-2), 2, (-2))] 31 [(0, .ref (b + v0)), (1, .int v1), (2, .int v2), (3, .int v3)] [.int (-2)] (by decide +kernel) rfl rfl ?_
          exact jRetI C (by decide +kernel : decode cX1_refusalOfSin 31 = .ok (.ireturn, 1)) (Nat.le_refl _) (Nat.le_refl _) ⟨rfl, h⟩
      · have h := it2 h c5
        refine jB C [(.iconst (-1), 1, (-1))] 20 [(0, .ref (b + v0)), (1, .int v1), (2, .int v2), (3, .int v3)] [.int (-1)] (by decide +kernel) rfl rfl ?_
        exact jRetI C (by decide +kernel : decode cX1_refusalOfSin 20 = .ok (.ireturn, 1)) (Nat.le_refl _) (Nat.le_refl _) ⟨rfl, h⟩
theorem ok_X1_refusalOfSin {G : Gm} {v0 : Nat} {v1 : Int32} {v2 : Int32} {v3 : Int32} {S : St} {Q : Int32 → St → Prop} (t_v0 : ok G 4 v0) (h : f_X1_refusalOfSin G v0 v1 v2 v3 Q S) : MT yX1_refusalOfSin cX1_refusalOfSin 5 (some .int) rm_X1_refusalOfSin 0 0 (fun b => [.ref (b + v0), .int v1, .int v2, .int v3]) G S (QI (fun r G1 S1 => G1 = G ∧ Q r S1)) := MT.ofJ (by decide) (fun b => [(0, .ref (b + v0)), (1, .int v1), (2, .int v2), (3, .int v3)]) (fun b => rfl) (fun b => Nat.le_of_ble_eq_true rfl) (fun l b D cy p e s m below meth c C hE hn => j_X1_refusalOfSin C hE t_v0 h)
theorem hd_X1_refusalOfSin : yX1_refusalOfSin.cls ≠ "java/lang/invoke/MethodHandle" ∧ yX1_refusalOfSin.cls ≠ "java/lang/invoke/VarHandle" ∧ (parseMethodDescriptor yX1_refusalOfSin.desc).map (fun d => d.parameters.length) = some 4 := by decide +kernel
def f_X2_bars (G : Gm) (v0 : Nat) (v1 : Nat) (v2 : Int32) (Q : Int32 → St → Prop) (S : St) : Prop :=
  f_X5_sightOf G v1 v2 (fun r2 S1 => f_X2_aboutPerson G v0 v1 v2 r2 (fun S3 => f_X5_lawInForce G v1 (fun r5 S4 => (∀ z, r5 = some z → ok G 7 z) ∧ f_X2_lastTold G v0 r5 3 (fun r8 S7 => (if r8 = (-2147483648) then Q 0 S7 else Q 1 S7)) S4) S3) S1) S
abbrev rm_X2_bars : Room := { frames := 3, cells := 0, slots := 0, locals := 82 }
set_option maxHeartbeats 4000000 in
set_option maxRecDepth 100000 in
theorem j_X2_bars {p : Program} {l : Launch} {e : Env} {s : State} {m : MethodId} {args : Array Value} {below : List Frame} {meth : Method} {c : Code} {b : Nat} {D : va_G} {cy : Nat → ClassId} {G : Gm} {v0 : Nat} {v1 : Nat} {v2 : Int32} {S : St} {Q : Int32 → St → Prop} (C : CX p s m args meth c b D cy cX2_bars RX2 3 (some .boolean)) (hE : s.heap.size + 0 ≤ b + G.2.2) (t_v0 : ok G 2 v0) (t_v1 : ok G 4 v1) (h : f_X2_bars G v0 v1 v2 Q S) : J p l e rm_X2_bars s m args below meth c b D cy 3 (zI b D cy below args s G Q) 0 0 G S 0 [(0, .ref (b + v0)), (1, .ref (b + v1)), (2, .int v2)] [] := by
  unfold f_X2_bars at h
  refine jB C [(.aload_n 0, 1, 0), (.aload_n 1, 1, 0), (.iload_n 2, 1, 0), (.aload_n 1, 1, 0), (.iload_n 2, 1, 0)] 5 [(0, .ref (b + v0)), (1, .ref (b + v1)), (2, .int v2)] [.int v2, .ref (b + v1), .int v2, .ref (b + v1), .ref (b + v0)] (by decide +kernel) rfl rfl ?_
  refine jcVN_I C 8 (rest := [.int v2, .ref (b + v1), .ref (b + v0)]) (ok_X5_sightOf t_v1 h) (by decide +kernel : decode cX2_bars 5 = .ok (.invokevirtual 54, 3)) rfl wn_493 wd_413 wp_10 wd_2 wd_414 ⟨rfl, rfl⟩ hd_X5_sightOf ⟨Nat.le_of_ble_eq_true rfl, Nat.le_of_ble_eq_true rfl⟩ t_v1 kX5 (by decide) rfl rfl rfl (Nat.le_of_ble_eq_true rfl) ⟨Nat.zero_le _, Nat.zero_le _⟩ (fun r2 S1 h => ?_)
  refine jcV_V C 11 (rest := []) (ok_X2_aboutPerson t_v0 t_v1 h) (by decide +kernel : decode cX2_bars 8 = .ok (.invokevirtual 45, 3)) rfl wd_430 wd_432 wp_13 wd_4 wd_433 ⟨rfl, rfl⟩ hd_X2_aboutPerson ⟨Nat.le_of_ble_eq_true rfl, Nat.le_of_ble_eq_true rfl⟩ t_v0 kX2 (by decide) rfl rfl rfl (Nat.le_of_ble_eq_true rfl) ⟨Nat.zero_le _, Nat.zero_le _⟩ (fun S3 h => ?_)
  refine jB C [(.aload_n 0, 1, 0), (.aload_n 1, 1, 0)] 13 [(0, .ref (b + v0)), (1, .ref (b + v1)), (2, .int v2)] [.ref (b + v1), .ref (b + v0)] (by decide +kernel) rfl rfl ?_
  refine jcVN_O C 16 (rest := [.ref (b + v0)]) (ok_X5_lawInForce t_v1 h) (by decide +kernel : decode cX2_bars 13 = .ok (.invokevirtual 41, 3)) rfl wn_445 wd_447 wp_15 wd_2 wd_448 ⟨rfl, rfl⟩ hd_X5_lawInForce ⟨Nat.le_of_ble_eq_true rfl, Nat.le_of_ble_eq_true rfl⟩ t_v1 kX5 (by decide) rfl rfl rfl (Nat.le_of_ble_eq_true rfl) ⟨Nat.zero_le _, Nat.zero_le _⟩ (fun r5 S4 h => ?_)
  obtain ⟨t6, h⟩ := h
  refine jB C [(.iconst 3, 1, 3)] 17 [(0, .ref (b + v0)), (1, .ref (b + v1)), (2, .int v2)] [.int 3, rv b r5, .ref (b + v0)] (by decide +kernel) rfl rfl ?_
  refine jcV_I C 20 (rest := []) (ok_X2_lastTold t_v0 t6 h) (by decide +kernel : decode cX2_bars 17 = .ok (.invokevirtual 26, 3)) rfl wd_457 wd_459 wp_18 wd_4 wd_460 ⟨rfl, rfl⟩ hd_X2_lastTold ⟨Nat.le_of_ble_eq_true rfl, Nat.le_of_ble_eq_true rfl⟩ t_v0 kX2 (by decide) rfl rfl rfl (Nat.le_of_ble_eq_true rfl) ⟨Nat.zero_le _, Nat.zero_le _⟩ (fun r8 S7 h => ?_)
  refine jLdc C 22 (by decide +kernel : decode cX2_bars 20 = .ok (.ldc 30, 2)) rfl wd_461 ?_
  refine jIcmp_eq C 25 29 (by decide +kernel : decode cX2_bars 22 = .ok (.if_icmp .eq 7, 3)) rfl rfl (fun c9 => ?_) (fun c9 => ?_)
  · have h := it1 h c9
    refine jB C [(.iconst 0, 1, 0)] 30 [(0, .ref (b + v0)), (1, .ref (b + v1)), (2, .int v2)] [.int 0] (by decide +kernel) rfl rfl ?_
    exact jRetZ C (by decide +kernel : decode cX2_bars 30 = .ok (.ireturn, 1)) (Nat.le_refl _) (Nat.le_refl _) (by decide) ⟨rfl, h⟩
  · have h := it2 h c9
    refine jB C [(.iconst 1, 1, 1)] 26 [(0, .ref (b + v0)), (1, .ref (b + v1)), (2, .int v2)] [.int 1] (by decide +kernel) rfl rfl ?_
    refine jGoto C 30 (by decide +kernel : decode cX2_bars 26 = .ok (.goto 4, 3)) rfl ?_
    exact jRetZ C (by decide +kernel : decode cX2_bars 30 = .ok (.ireturn, 1)) (Nat.le_refl _) (Nat.le_refl _) (by decide) ⟨rfl, h⟩
theorem ok_X2_bars {G : Gm} {v0 : Nat} {v1 : Nat} {v2 : Int32} {S : St} {Q : Int32 → St → Prop} (t_v0 : ok G 2 v0) (t_v1 : ok G 4 v1) (h : f_X2_bars G v0 v1 v2 Q S) : MT yX2_bars cX2_bars 3 (some .boolean) rm_X2_bars 0 0 (fun b => [.ref (b + v0), .ref (b + v1), .int v2]) G S (QI (fun r G1 S1 => G1 = G ∧ Q r S1)) := MT.ofJ (by decide) (fun b => [(0, .ref (b + v0)), (1, .ref (b + v1)), (2, .int v2)]) (fun b => rfl) (fun b => Nat.le_of_ble_eq_true rfl) (fun l b D cy p e s m below meth c C hE hn => j_X2_bars C hE t_v0 t_v1 h)
theorem hd_X2_bars : yX2_bars.cls ≠ "java/lang/invoke/MethodHandle" ∧ yX2_bars.cls ≠ "java/lang/invoke/VarHandle" ∧ (parseMethodDescriptor yX2_bars.desc).map (fun d => d.parameters.length) = some 2 := by decide +kernel
def f_X1_refusalOf (G : Gm) (v0 : Nat) (v1 : Nat) (v2 : Int32) (v3 : Int32) (v4 : Int32) (v5 : Int32) (Q : Int32 → St → Prop) (S : St) : Prop :=
  (if v2 = 0 then f_X1_refusalOfSin G v1 v3 v4 v5 (fun r2 S1 => Q r2 S1) S else (if v2 = 1 then f_X5_has G v1 v3 (fun r4 S3 => (if r4 = 0 then Q (-2) S3 else (∃ a6, S3.2.2 v0 0 = some a6 ∧ f_X2_bars G a6 v1 v3 (fun r8 S7 => (if r8 = 0 then Q 0 S7 else Q (-3) S7)) S3))) S else (if v2 = 2 then (if v3 = v4 then Q (-1) S else f_X5_has G v1 v3 (fun r12 S11 => (if r12 = 0 then Q (-2) S11 else f_X5_has G v1 v4 (fun r15 S14 => (if r15 = 0 then Q (-2) S14 else Q 0 S14)) S11)) S) else (if v2 = 3 then f_X5_has G v1 v3 (fun r18 S17 => (if r18 = 0 then Q (-2) S17 else f_X5_glassOf G v1 v3 (fun r21 S20 => (if r21 = 0 then Q (-3) S20 else Q 0 S20)) S17)) S else f_X5_termOf G v1 0 (fun r24 S23 => (if r24 < 999 then Q 0 S23 else Q (-3) S23)) S))))
abbrev rm_X1_refusalOf : Room := { frames := 4, cells := 0, slots := 0, locals := 104 }
set_option maxHeartbeats 4000000 in
set_option maxRecDepth 100000 in
theorem j_X1_refusalOf {p : Program} {l : Launch} {e : Env} {s : State} {m : MethodId} {args : Array Value} {below : List Frame} {meth : Method} {c : Code} {b : Nat} {D : va_G} {cy : Nat → ClassId} {G : Gm} {v0 : Nat} {v1 : Nat} {v2 : Int32} {v3 : Int32} {v4 : Int32} {v5 : Int32} {S : St} {Q : Int32 → St → Prop} (C : CX p s m args meth c b D cy cX1_refusalOf RX1 6 (some .int)) (hE : s.heap.size + 0 ≤ b + G.2.2) (t_v0 : ok G 1 v0) (t_v1 : ok G 4 v1) (h : f_X1_refusalOf G v0 v1 v2 v3 v4 v5 Q S) : J p l e rm_X1_refusalOf s m args below meth c b D cy 6 (zI b D cy below args s G Q) 0 0 G S 0 [(0, .ref (b + v0)), (1, .ref (b + v1)), (2, .int v2), (3, .int v3), (4, .int v4), (5, .int v5)] [] := by
  unfold f_X1_refusalOf at h
  refine jB C [(.iload_n 2, 1, 0)] 1 [(0, .ref (b + v0)), (1, .ref (b + v1)), (2, .int v2), (3, .int v3), (4, .int v4), (5, .int v5)] [.int v2] (by decide +kernel) rfl rfl ?_
  by_cases c26_0 : v2 = 0
  · have h := it1 h c26_0
    refine jTabIn C 32 0 (by decide +kernel : decode cX1_refusalOf 1 = .ok (.tableswitch 129 0 3 #[31, 41, 71, 103], 31)) c26_0 ⟨rfl, rfl, rfl, rfl⟩ ?_
    refine jB C [(.aload_n 1, 1, 0), (.iload_n 3, 1, 0), (.iload 4, 2, 0), (.iload 5, 2, 0)] 38 [(0, .ref (b + v0)), (1, .ref (b + v1)), (2, .int v2), (3, .int v3), (4, .int v4), (5, .int v5)] [.int v5, .int v4, .int v3, .ref (b + v1)] (by decide +kernel) rfl rfl ?_
    refine jcS_I C 41 (rest := []) (ok_X1_refusalOfSin t_v1 h) (by decide +kernel : decode cX1_refusalOf 38 = .ok (.invokestatic 75, 3)) rfl wd_823 wd_824 wd_6 wd_825 ⟨rfl, rfl⟩ hd_X1_refusalOfSin ⟨Nat.le_of_ble_eq_true rfl, Nat.le_of_ble_eq_true rfl⟩ rfl rfl (Nat.le_of_ble_eq_true rfl) ⟨Nat.zero_le _, Nat.zero_le _⟩ (fun r2 S1 h => ?_)
    exact jRetI C (by decide +kernel : decode cX1_refusalOf 41 = .ok (.ireturn, 1)) (Nat.le_refl _) (Nat.le_refl _) ⟨rfl, h⟩
  · have h := it2 h c26_0
    by_cases c26_1 : v2 = 1
    · have h := it1 h c26_1
      refine jTabIn C 42 1 (by decide +kernel : decode cX1_refusalOf 1 = .ok (.tableswitch 129 0 3 #[31, 41, 71, 103], 31)) c26_1 ⟨rfl, rfl, rfl, rfl⟩ ?_
      refine jB C [(.aload_n 1, 1, 0), (.iload_n 3, 1, 0)] 44 [(0, .ref (b + v0)), (1, .ref (b + v1)), (2, .int v2), (3, .int v3), (4, .int v4), (5, .int v5)] [.int v3, .ref (b + v1)] (by decide +kernel) rfl rfl ?_
      refine jcVN_I C 47 (rest := []) (ok_X5_has t_v1 h) (by decide +kernel : decode cX1_refusalOf 44 = .ok (.invokevirtual 79, 3)) rfl wn_827 wd_373 wp_4 wd_2 wd_374 ⟨rfl, rfl⟩ hd_X5_has ⟨Nat.le_of_ble_eq_true rfl, Nat.le_of_ble_eq_true rfl⟩ t_v1 kX5 (by decide) rfl rfl rfl (Nat.le_of_ble_eq_true rfl) ⟨Nat.zero_le _, Nat.zero_le _⟩ (fun r4 S3 h => ?_)
      refine jIf_ne C 50 53 (by decide +kernel : decode cX1_refusalOf 47 = .ok (.ifCond .ne 6, 3)) rfl rfl (fun c5 => ?_) (fun c5 => ?_)
      · have h := it2 h c5
        refine jB C [(.aload_n 0, 1, 0)] 54 [(0, .ref (b + v0)), (1, .ref (b + v1)), (2, .int v2), (3, .int v3), (4, .int v4), (5, .int v5)] [.ref (b + v0)] (by decide +kernel) rfl rfl ?_
        obtain ⟨a6, e_a6, h⟩ := h
        refine jGetR C 57 (by decide +kernel : decode cX1_refusalOf 54 = .ok (.getfield 12, 3)) rfl t_v0 kX1 0 (by decide) rfl rfl (by decide) wd_132 e_a6 rfl (fun t_a6 => ?_)
        refine jB C [(.aload_n 1, 1, 0), (.iload_n 3, 1, 0)] 59 [(0, .ref (b + v0)), (1, .ref (b + v1)), (2, .int v2), (3, .int v3), (4, .int v4), (5, .int v5)] [.int v3, .ref (b + v1), .ref (b + a6)] (by decide +kernel) rfl rfl ?_
        refine jcVN_I C 62 (rest := []) (ok_X2_bars t_a6 t_v1 h) (by decide +kernel : decode cX1_refusalOf 59 = .ok (.invokevirtual 83, 3)) rfl wn_829 wd_491 wp_23 wd_4 wd_492 ⟨rfl, rfl⟩ hd_X2_bars ⟨Nat.le_of_ble_eq_true rfl, Nat.le_of_ble_eq_true rfl⟩ t_a6 kX2 (by decide) rfl rfl rfl (Nat.le_of_ble_eq_true rfl) ⟨Nat.zero_le _, Nat.zero_le _⟩ (fun r8 S7 h => ?_)
        refine jIf_eq C 65 70 (by decide +kernel : decode cX1_refusalOf 62 = .ok (.ifCond .eq 8, 3)) rfl rfl (fun c9 => ?_) (fun c9 => ?_)
        · have h := it1 h c9
          refine jB C [(.iconst 0, 1, 0)] 71 [(0, .ref (b + v0)), (1, .ref (b + v1)), (2, .int v2), (3, .int v3), (4, .int v4), (5, .int v5)] [.int 0] (by decide +kernel) rfl rfl ?_
          exact jRetI C (by decide +kernel : decode cX1_refusalOf 71 = .ok (.ireturn, 1)) (Nat.le_refl _) (Nat.le_refl _) ⟨rfl, h⟩
        · have h := it2 h c9
          refine jB C [(.bipush (-3), 2, (-3))] 67 [(0, .ref (b + v0)), (1, .ref (b + v1)), (2, .int v2), (3, .int v3), (4, .int v4), (5, .int v5)] [.int (-3)] (by decide +kernel) rfl rfl ?_
          refine jGoto C 71 (by decide +kernel : decode cX1_refusalOf 67 = .ok (.goto 4, 3)) rfl ?_
          exact jRetI C (by decide +kernel : decode cX1_refusalOf 71 = .ok (.ireturn, 1)) (Nat.le_refl _) (Nat.le_refl _) ⟨rfl, h⟩
      · have h := it1 h c5
        refine jB C [(.bipush (-2), 2, (-2))] 52 [(0, .ref (b + v0)), (1, .ref (b + v1)), (2, .int v2), (3, .int v3), (4, .int v4), (5, .int v5)] [.int (-2)] (by decide +kernel) rfl rfl ?_
        exact jRetI C (by decide +kernel : decode cX1_refusalOf 52 = .ok (.ireturn, 1)) (Nat.le_refl _) (Nat.le_refl _) ⟨rfl, h⟩
    · have h := it2 h c26_1
      by_cases c26_2 : v2 = 2
      · have h := it1 h c26_2
        refine jTabIn C 72 2 (by decide +kernel : decode cX1_refusalOf 1 = .ok (.tableswitch 129 0 3 #[31, 41, 71, 103], 31)) c26_2 ⟨rfl, rfl, rfl, rfl⟩ ?_
        refine jB C [(.iload_n 3, 1, 0), (.iload 4, 2, 0)] 75 [(0, .ref (b + v0)), (1, .ref (b + v1)), (2, .int v2), (3, .int v3), (4, .int v4), (5, .int v5)] [.int v4, .int v3] (by decide +kernel) rfl rfl ?_
        refine jIcmp_ne C 78 80 (by decide +kernel : decode cX1_refusalOf 75 = .ok (.if_icmp .ne 5, 3)) rfl rfl (fun c10 => ?_) (fun c10 => ?_)
        · have h := it2 h c10
          refine jB C [(.aload_n 1, 1, 0), (.iload_n 3, 1, 0)] 82 [(0, .ref (b + v0)), (1, .ref (b + v1)), (2, .int v2), (3, .int v3), (4, .int v4), (5, .int v5)] [.int v3, .ref (b + v1)] (by decide +kernel) rfl rfl ?_
          refine jcVN_I C 85 (rest := []) (ok_X5_has t_v1 h) (by decide +kernel : decode cX1_refusalOf 82 = .ok (.invokevirtual 79, 3)) rfl wn_827 wd_373 wp_4 wd_2 wd_374 ⟨rfl, rfl⟩ hd_X5_has ⟨Nat.le_of_ble_eq_true rfl, Nat.le_of_ble_eq_true rfl⟩ t_v1 kX5 (by decide) rfl rfl rfl (Nat.le_of_ble_eq_true rfl) ⟨Nat.zero_le _, Nat.zero_le _⟩ (fun r12 S11 h => ?_)
          refine jIf_eq C 88 101 (by decide +kernel : decode cX1_refusalOf 85 = .ok (.ifCond .eq 16, 3)) rfl rfl (fun c13 => ?_) (fun c13 => ?_)
          · have h := it1 h c13
            refine jB C [(.bipush (-2), 2, (-2))] 103 [(0, .ref (b + v0)), (1, .ref (b + v1)), (2, .int v2), (3, .int v3), (4, .int v4), (5, .int v5)] [.int (-2)] (by decide +kernel) rfl rfl ?_
            exact jRetI C (by decide +kernel : decode cX1_refusalOf 103 = .ok (.ireturn, 1)) (Nat.le_refl _) (Nat.le_refl _) ⟨rfl, h⟩
          · have h := it2 h c13
            refine jB C [(.aload_n 1, 1, 0), (.iload 4, 2, 0)] 91 [(0, .ref (b + v0)), (1, .ref (b + v1)), (2, .int v2), (3, .int v3), (4, .int v4), (5, .int v5)] [.int v4, .ref (b + v1)] (by decide +kernel) rfl rfl ?_
            refine jcVN_I C 94 (rest := []) (ok_X5_has t_v1 h) (by decide +kernel : decode cX1_refusalOf 91 = .ok (.invokevirtual 79, 3)) rfl wn_827 wd_373 wp_4 wd_2 wd_374 ⟨rfl, rfl⟩ hd_X5_has ⟨Nat.le_of_ble_eq_true rfl, Nat.le_of_ble_eq_true rfl⟩ t_v1 kX5 (by decide) rfl rfl rfl (Nat.le_of_ble_eq_true rfl) ⟨Nat.zero_le _, Nat.zero_le _⟩ (fun r15 S14 h => ?_)
            refine jIf_eq C 97 101 (by decide +kernel : decode cX1_refusalOf 94 = .ok (.ifCond .eq 7, 3)) rfl rfl (fun c16 => ?_) (fun c16 => ?_)
            · have h := it1 h c16
              refine jB C [(.bipush (-2), 2, (-2))] 103 [(0, .ref (b + v0)), (1, .ref (b + v1)), (2, .int v2), (3, .int v3), (4, .int v4), (5, .int v5)] [.int (-2)] (by decide +kernel) rfl rfl ?_
              exact jRetI C (by decide +kernel : decode cX1_refusalOf 103 = .ok (.ireturn, 1)) (Nat.le_refl _) (Nat.le_refl _) ⟨rfl, h⟩
            · have h := it2 h c16
              refine jB C [(.iconst 0, 1, 0)] 98 [(0, .ref (b + v0)), (1, .ref (b + v1)), (2, .int v2), (3, .int v3), (4, .int v4), (5, .int v5)] [.int 0] (by decide +kernel) rfl rfl ?_
              refine jGoto C 103 (by decide +kernel : decode cX1_refusalOf 98 = .ok (.goto 5, 3)) rfl ?_
              exact jRetI C (by decide +kernel : decode cX1_refusalOf 103 = .ok (.ireturn, 1)) (Nat.le_refl _) (Nat.le_refl _) ⟨rfl, h⟩
        · have h := it1 h c10
          refine jB C [(.iconst (-1), 1, (-1))] 79 [(0, .ref (b + v0)), (1, .ref (b + v1)), (2, .int v2), (3, .int v3), (4, .int v4), (5, .int v5)] [.int (-1)] (by decide +kernel) rfl rfl ?_
          exact jRetI C (by decide +kernel : decode cX1_refusalOf 79 = .ok (.ireturn, 1)) (Nat.le_refl _) (Nat.le_refl _) ⟨rfl, h⟩
      · have h := it2 h c26_2
        by_cases c26_3 : v2 = 3
        · have h := it1 h c26_3
          refine jTabIn C 104 3 (by decide +kernel : decode cX1_refusalOf 1 = .ok (.tableswitch 129 0 3 #[31, 41, 71, 103], 31)) c26_3 ⟨rfl, rfl, rfl, rfl⟩ ?_
          refine jB C [(.aload_n 1, 1, 0), (.iload_n 3, 1, 0)] 106 [(0, .ref (b + v0)), (1, .ref (b + v1)), (2, .int v2), (3, .int v3), (4, .int v4), (5, .int v5)] [.int v3, .ref (b + v1)] (by decide +kernel) rfl rfl ?_
          refine jcVN_I C 109 (rest := []) (ok_X5_has t_v1 h) (by decide +kernel : decode cX1_refusalOf 106 = .ok (.invokevirtual 79, 3)) rfl wn_827 wd_373 wp_4 wd_2 wd_374 ⟨rfl, rfl⟩ hd_X5_has ⟨Nat.le_of_ble_eq_true rfl, Nat.le_of_ble_eq_true rfl⟩ t_v1 kX5 (by decide) rfl rfl rfl (Nat.le_of_ble_eq_true rfl) ⟨Nat.zero_le _, Nat.zero_le _⟩ (fun r18 S17 h => ?_)
          refine jIf_ne C 112 115 (by decide +kernel : decode cX1_refusalOf 109 = .ok (.ifCond .ne 6, 3)) rfl rfl (fun c19 => ?_) (fun c19 => ?_)
          · have h := it2 h c19
            refine jB C [(.aload_n 1, 1, 0), (.iload_n 3, 1, 0)] 117 [(0, .ref (b + v0)), (1, .ref (b + v1)), (2, .int v2), (3, .int v3), (4, .int v4), (5, .int v5)] [.int v3, .ref (b + v1)] (by decide +kernel) rfl rfl ?_
            refine jcVN_I C 120 (rest := []) (ok_X5_glassOf t_v1 h) (by decide +kernel : decode cX1_refusalOf 117 = .ok (.invokevirtual 54, 3)) rfl wn_830 wd_402 wp_9 wd_2 wd_403 ⟨rfl, rfl⟩ hd_X5_glassOf ⟨Nat.le_of_ble_eq_true rfl, Nat.le_of_ble_eq_true rfl⟩ t_v1 kX5 (by decide) rfl rfl rfl (Nat.le_of_ble_eq_true rfl) ⟨Nat.zero_le _, Nat.zero_le _⟩ (fun r21 S20 h => ?_)
            refine jIf_ne C 123 128 (by decide +kernel : decode cX1_refusalOf 120 = .ok (.ifCond .ne 8, 3)) rfl rfl (fun c22 => ?_) (fun c22 => ?_)
            · have h := it2 h c22
              refine jB C [(.iconst 0, 1, 0)] 129 [(0, .ref (b + v0)), (1, .ref (b + v1)), (2, .int v2), (3, .int v3), (4, .int v4), (5, .int v5)] [.int 0] (by decide +kernel) rfl rfl ?_
              exact jRetI C (by decide +kernel : decode cX1_refusalOf 129 = .ok (.ireturn, 1)) (Nat.le_refl _) (Nat.le_refl _) ⟨rfl, h⟩
            · have h := it1 h c22
              refine jB C [(.bipush (-3), 2, (-3))] 125 [(0, .ref (b + v0)), (1, .ref (b + v1)), (2, .int v2), (3, .int v3), (4, .int v4), (5, .int v5)] [.int (-3)] (by decide +kernel) rfl rfl ?_
              refine jGoto C 129 (by decide +kernel : decode cX1_refusalOf 125 = .ok (.goto 4, 3)) rfl ?_
              exact jRetI C (by decide +kernel : decode cX1_refusalOf 129 = .ok (.ireturn, 1)) (Nat.le_refl _) (Nat.le_refl _) ⟨rfl, h⟩
          · have h := it1 h c19
            refine jB C [(.bipush (-2), 2, (-2))] 114 [(0, .ref (b + v0)), (1, .ref (b + v1)), (2, .int v2), (3, .int v3), (4, .int v4), (5, .int v5)] [.int (-2)] (by decide +kernel) rfl rfl ?_
            exact jRetI C (by decide +kernel : decode cX1_refusalOf 114 = .ok (.ireturn, 1)) (Nat.le_refl _) (Nat.le_refl _) ⟨rfl, h⟩
        · have h := it2 h c26_3
          refine jTabOut C 130 (by decide +kernel : decode cX1_refusalOf 1 = .ok (.tableswitch 129 0 3 #[31, 41, 71, 103], 31)) rfl (by have := lv_neT c26_0 (a := 0) rfl; have := lv_neT c26_1 (a := 1) rfl; have := lv_neT c26_2 (a := 2) rfl; have := lv_neT c26_3 (a := 3) rfl; omega) ?_
          refine jB C [(.aload_n 1, 1, 0), (.iconst 0, 1, 0)] 132 [(0, .ref (b + v0)), (1, .ref (b + v1)), (2, .int v2), (3, .int v3), (4, .int v4), (5, .int v5)] [.int 0, .ref (b + v1)] (by decide +kernel) rfl rfl ?_
          refine jcVN_I C 135 (rest := []) (ok_X5_termOf t_v1 h) (by decide +kernel : decode cX1_refusalOf 132 = .ok (.invokevirtual 87, 3)) rfl wn_831 wd_418 wp_11 wd_2 wd_419 ⟨rfl, rfl⟩ hd_X5_termOf ⟨Nat.le_of_ble_eq_true rfl, Nat.le_of_ble_eq_true rfl⟩ t_v1 kX5 (by decide) rfl rfl rfl (Nat.le_of_ble_eq_true rfl) ⟨Nat.zero_le _, Nat.zero_le _⟩ (fun r24 S23 h => ?_)
          refine jB C [(.sipush 999, 3, 999)] 138 [(0, .ref (b + v0)), (1, .ref (b + v1)), (2, .int v2), (3, .int v3), (4, .int v4), (5, .int v5)] [.int 999, .int r24] (by decide +kernel) rfl rfl ?_
          refine jIcmp_lt C 141 146 (by decide +kernel : decode cX1_refusalOf 138 = .ok (.if_icmp .lt 8, 3)) rfl rfl (fun c25 => ?_) (fun c25 => ?_)
          · have h := it1 h c25
            refine jB C [(.iconst 0, 1, 0)] 147 [(0, .ref (b + v0)), (1, .ref (b + v1)), (2, .int v2), (3, .int v3), (4, .int v4), (5, .int v5)] [.int 0] (by decide +kernel) rfl rfl ?_
            exact jRetI C (by decide +kernel : decode cX1_refusalOf 147 = .ok (.ireturn, 1)) (Nat.le_refl _) (Nat.le_refl _) ⟨rfl, h⟩
          · have h := it2 h c25
            refine jB C [(.bipush (-3), 2, (-3))] 143 [(0, .ref (b + v0)), (1, .ref (b + v1)), (2, .int v2), (3, .int v3), (4, .int v4), (5, .int v5)] [.int (-3)] (by decide +kernel) rfl rfl ?_
            refine jGoto C 147 (by decide +kernel : decode cX1_refusalOf 143 = .ok (.goto 4, 3)) rfl ?_
            exact jRetI C (by decide +kernel : decode cX1_refusalOf 147 = .ok (.ireturn, 1)) (Nat.le_refl _) (Nat.le_refl _) ⟨rfl, h⟩
theorem ok_X1_refusalOf {G : Gm} {v0 : Nat} {v1 : Nat} {v2 : Int32} {v3 : Int32} {v4 : Int32} {v5 : Int32} {S : St} {Q : Int32 → St → Prop} (t_v0 : ok G 1 v0) (t_v1 : ok G 4 v1) (h : f_X1_refusalOf G v0 v1 v2 v3 v4 v5 Q S) : MT yX1_refusalOf cX1_refusalOf 6 (some .int) rm_X1_refusalOf 0 0 (fun b => [.ref (b + v0), .ref (b + v1), .int v2, .int v3, .int v4, .int v5]) G S (QI (fun r G1 S1 => G1 = G ∧ Q r S1)) := MT.ofJ (by decide) (fun b => [(0, .ref (b + v0)), (1, .ref (b + v1)), (2, .int v2), (3, .int v3), (4, .int v4), (5, .int v5)]) (fun b => rfl) (fun b => Nat.le_of_ble_eq_true rfl) (fun l b D cy p e s m below meth c C hE hn => j_X1_refusalOf C hE t_v0 t_v1 h)
theorem hd_X1_refusalOf : yX1_refusalOf.cls ≠ "java/lang/invoke/MethodHandle" ∧ yX1_refusalOf.cls ≠ "java/lang/invoke/VarHandle" ∧ (parseMethodDescriptor yX1_refusalOf.desc).map (fun d => d.parameters.length) = some 5 := by decide +kernel
def f_X9_remember (G : Gm) (v0 : Nat) (v1 : Nat) (v2 : Int32) (Q : St → Prop) (S : St) : Prop :=
  f_J9_floorMod_7cf53 G (S.1 v0 1) 16 (fun r2 S1 => (∀ x3 : Int32, x3 = r2 * 32 → (∃ a4, S1.2.2 v1 1 = some a4 ∧ (∃ a5, S1.2.2 v0 0 = some a5 ∧ (cpOk 0 x3 24 (G.2.1 a4) (G.2.1 a5) ∧ ∀ S7, S7 = cpI S1 a4 0 a5 x3 24 → (∃ a8, S7.2.2 v1 2 = some a8 ∧ (∃ a9, S7.2.2 v0 0 = some a9 ∧ (cpOk 0 (x3 + 24) 6 (G.2.1 a8) (G.2.1 a9) ∧ ∀ S11, S11 = cpI S7 a8 0 a9 (x3 + 24) 6 → (∃ a12, S11.2.2 v0 0 = some a12 ∧ f_X5_termOf G v1 0 (fun r14 S13 => (vp_in (x3 + 30) (G.2.1 a12) ∧ ∀ S16, S16 = uI S13 a12 (x3 + 30).toNatClampNeg r14 → (∃ a17, S16.2.2 v0 0 = some a17 ∧ (vp_in (x3 + 31) (G.2.1 a17) ∧ ∀ S19, S19 = uI S16 a17 (x3 + 31).toNatClampNeg v2 → f_J9_floorMod_7cf53 G ((S19.1 v0 1) + 1) 16 (fun r21 S20 => (∀ S22, S22 = uI S20 v0 1 r21 → (∀ S23, S23 = uI S22 v0 2 (mn ((S22.1 v0 2) + 1) 16) → Q S23))) S19)))) S11))))))))) S
abbrev rm_X9_remember : Room := { frames := 1, cells := 0, slots := 0, locals := 60 }
set_option maxHeartbeats 4000000 in
set_option maxRecDepth 100000 in
theorem j_X9_remember {p : Program} {l : Launch} {e : Env} {s : State} {m : MethodId} {args : Array Value} {below : List Frame} {meth : Method} {c : Code} {b : Nat} {D : va_G} {cy : Nat → ClassId} {G : Gm} {v0 : Nat} {v1 : Nat} {v2 : Int32} {S : St} {Q : St → Prop} (C : CX p s m args meth c b D cy cX9_remember RX9 4 none) (hE : s.heap.size + 0 ≤ b + G.2.2) (t_v0 : ok G 8 v0) (t_v1 : ok G 4 v1) (h : f_X9_remember G v0 v1 v2 Q S) : J p l e rm_X9_remember s m args below meth c b D cy 4 (zV b D cy below args s G Q) 0 0 G S 0 [(0, .ref (b + v0)), (1, .ref (b + v1)), (2, .int v2)] [] := by
  unfold f_X9_remember at h
  refine jB C [(.aload_n 0, 1, 0)] 1 [(0, .ref (b + v0)), (1, .ref (b + v1)), (2, .int v2)] [.ref (b + v0)] (by decide +kernel) rfl rfl ?_
  refine jGetI C 4 (by decide +kernel : decode cX9_remember 1 = .ok (.getfield 25, 3)) rfl t_v0 kX9 1 (by decide) rfl rfl (by decide) wd_90 ?_
  refine jB C [(.bipush 16, 2, 16)] 6 [(0, .ref (b + v0)), (1, .ref (b + v1)), (2, .int v2)] [.int 16, .int (S.1 v0 1)] (by decide +kernel) rfl rfl ?_
  refine jcS_I C 9 (rest := []) (ok_J9_floorMod_7cf53 h) (by decide +kernel : decode cX9_remember 6 = .ok (.invokestatic 28, 3)) rfl wd_836 wd_837 wd_11 wd_838 ⟨rfl, rfl⟩ hd_J9_floorMod_7cf53 ⟨Nat.le_of_ble_eq_true rfl, Nat.le_of_ble_eq_true rfl⟩ rfl rfl (Nat.le_of_ble_eq_true rfl) ⟨Nat.zero_le _, Nat.zero_le _⟩ (fun r2 S1 h => ?_)
  refine jB C [(.bipush 32, 2, 32), (.imul, 1, 0)] 12 [(0, .ref (b + v0)), (1, .ref (b + v1)), (2, .int v2)] [.int (r2 * 32)] (by decide +kernel) rfl rfl ?_
  refine jTopI (fun x3 e_x3 => ?_)
  have h := h x3 e_x3
  refine jB C [(.istore_n 3, 1, 0), (.aload_n 1, 1, 0)] 14 [(3, .int x3), (0, .ref (b + v0)), (1, .ref (b + v1)), (2, .int v2)] [.ref (b + v1)] (by decide +kernel) rfl rfl ?_
  obtain ⟨a4, e_a4, h⟩ := h
  refine jGetRN C 17 (by decide +kernel : decode cX9_remember 14 = .ok (.getfield 34, 3)) rfl t_v1 kX5 1 (by decide) rfl rfl (by decide) wn_41 e_a4 rfl (fun t_a4 => ?_)
  refine jB C [(.iconst 0, 1, 0), (.aload_n 0, 1, 0)] 19 [(3, .int x3), (0, .ref (b + v0)), (1, .ref (b + v1)), (2, .int v2)] [.ref (b + v0), .int 0, .ref (b + a4)] (by decide +kernel) rfl rfl ?_
  obtain ⟨a5, e_a5, h⟩ := h
  refine jGetR C 22 (by decide +kernel : decode cX9_remember 19 = .ok (.getfield 11, 3)) rfl t_v0 kX9 0 (by decide) rfl rfl (by decide) wd_89 e_a5 rfl (fun t_a5 => ?_)
  refine jB C [(.iload_n 3, 1, 0), (.bipush 24, 2, 24)] 25 [(3, .int x3), (0, .ref (b + v0)), (1, .ref (b + v1)), (2, .int v2)] [.int 24, .int x3, .ref (b + a5), .int 0, .ref (b + a4)] (by decide +kernel) rfl rfl ?_
  obtain ⟨y6, h⟩ := h
  refine jCopy C 28 (by decide +kernel : decode cX9_remember 25 = .ok (.invokestatic 19, 3)) rfl hE t_a4 t_a5 y6 wd_789 (Nat.le_of_ble_eq_true rfl) (Nat.le_of_ble_eq_true rfl) ?_
  refine jTopS (fun S7 e_S7 => ?_)
  have h := h S7 e_S7
  refine jB C [(.aload_n 1, 1, 0)] 29 [(3, .int x3), (0, .ref (b + v0)), (1, .ref (b + v1)), (2, .int v2)] [.ref (b + v1)] (by decide +kernel) rfl rfl ?_
  obtain ⟨a8, e_a8, h⟩ := h
  refine jGetRN C 32 (by decide +kernel : decode cX9_remember 29 = .ok (.getfield 39, 3)) rfl t_v1 kX5 2 (by decide) rfl rfl (by decide) wn_43 e_a8 rfl (fun t_a8 => ?_)
  refine jB C [(.iconst 0, 1, 0), (.aload_n 0, 1, 0)] 34 [(3, .int x3), (0, .ref (b + v0)), (1, .ref (b + v1)), (2, .int v2)] [.ref (b + v0), .int 0, .ref (b + a8)] (by decide +kernel) rfl rfl ?_
  obtain ⟨a9, e_a9, h⟩ := h
  refine jGetR C 37 (by decide +kernel : decode cX9_remember 34 = .ok (.getfield 11, 3)) rfl t_v0 kX9 0 (by decide) rfl rfl (by decide) wd_89 e_a9 rfl (fun t_a9 => ?_)
  refine jB C [(.iload_n 3, 1, 0), (.bipush 24, 2, 24), (.iadd, 1, 0), (.bipush 6, 2, 6)] 43 [(3, .int x3), (0, .ref (b + v0)), (1, .ref (b + v1)), (2, .int v2)] [.int 6, .int (x3 + 24), .ref (b + a9), .int 0, .ref (b + a8)] (by decide +kernel) rfl rfl ?_
  obtain ⟨y10, h⟩ := h
  refine jCopy C 46 (by decide +kernel : decode cX9_remember 43 = .ok (.invokestatic 19, 3)) rfl hE t_a8 t_a9 y10 wd_789 (Nat.le_of_ble_eq_true rfl) (Nat.le_of_ble_eq_true rfl) ?_
  refine jTopS (fun S11 e_S11 => ?_)
  have h := h S11 e_S11
  refine jB C [(.aload_n 0, 1, 0)] 47 [(3, .int x3), (0, .ref (b + v0)), (1, .ref (b + v1)), (2, .int v2)] [.ref (b + v0)] (by decide +kernel) rfl rfl ?_
  obtain ⟨a12, e_a12, h⟩ := h
  refine jGetR C 50 (by decide +kernel : decode cX9_remember 47 = .ok (.getfield 11, 3)) rfl t_v0 kX9 0 (by decide) rfl rfl (by decide) wd_89 e_a12 rfl (fun t_a12 => ?_)
  refine jB C [(.iload_n 3, 1, 0), (.bipush 30, 2, 30), (.iadd, 1, 0), (.aload_n 1, 1, 0), (.iconst 0, 1, 0)] 56 [(3, .int x3), (0, .ref (b + v0)), (1, .ref (b + v1)), (2, .int v2)] [.int 0, .ref (b + v1), .int (x3 + 30), .ref (b + a12)] (by decide +kernel) rfl rfl ?_
  refine jcVN_I C 59 (rest := [.int (x3 + 30), .ref (b + a12)]) (ok_X5_termOf t_v1 h) (by decide +kernel : decode cX9_remember 56 = .ok (.invokevirtual 42, 3)) rfl wn_839 wd_418 wp_11 wd_2 wd_419 ⟨rfl, rfl⟩ hd_X5_termOf ⟨Nat.le_of_ble_eq_true rfl, Nat.le_of_ble_eq_true rfl⟩ t_v1 kX5 (by decide) rfl rfl rfl (Nat.le_of_ble_eq_true rfl) ⟨Nat.zero_le _, Nat.zero_le _⟩ (fun r14 S13 h => ?_)
  obtain ⟨y15, h⟩ := h
  refine jIast C 60 (by decide +kernel : decode cX9_remember 59 = .ok (.iastore, 1)) rfl hE t_a12 y15 ?_
  refine jTopS (fun S16 e_S16 => ?_)
  have h := h S16 e_S16
  refine jB C [(.aload_n 0, 1, 0)] 61 [(3, .int x3), (0, .ref (b + v0)), (1, .ref (b + v1)), (2, .int v2)] [.ref (b + v0)] (by decide +kernel) rfl rfl ?_
  obtain ⟨a17, e_a17, h⟩ := h
  refine jGetR C 64 (by decide +kernel : decode cX9_remember 61 = .ok (.getfield 11, 3)) rfl t_v0 kX9 0 (by decide) rfl rfl (by decide) wd_89 e_a17 rfl (fun t_a17 => ?_)
  refine jB C [(.iload_n 3, 1, 0), (.bipush 31, 2, 31), (.iadd, 1, 0), (.iload_n 2, 1, 0)] 69 [(3, .int x3), (0, .ref (b + v0)), (1, .ref (b + v1)), (2, .int v2)] [.int v2, .int (x3 + 31), .ref (b + a17)] (by decide +kernel) rfl rfl ?_
  obtain ⟨y18, h⟩ := h
  refine jIast C 70 (by decide +kernel : decode cX9_remember 69 = .ok (.iastore, 1)) rfl hE t_a17 y18 ?_
  refine jTopS (fun S19 e_S19 => ?_)
  have h := h S19 e_S19
  refine jB C [(.aload_n 0, 1, 0), (.aload_n 0, 1, 0)] 72 [(3, .int x3), (0, .ref (b + v0)), (1, .ref (b + v1)), (2, .int v2)] [.ref (b + v0), .ref (b + v0)] (by decide +kernel) rfl rfl ?_
  refine jGetI C 75 (by decide +kernel : decode cX9_remember 72 = .ok (.getfield 25, 3)) rfl t_v0 kX9 1 (by decide) rfl rfl (by decide) wd_90 ?_
  refine jB C [(.iconst 1, 1, 1), (.iadd, 1, 0), (.bipush 16, 2, 16)] 79 [(3, .int x3), (0, .ref (b + v0)), (1, .ref (b + v1)), (2, .int v2)] [.int 16, .int ((S19.1 v0 1) + 1), .ref (b + v0)] (by decide +kernel) rfl rfl ?_
  refine jcS_I C 82 (rest := [.ref (b + v0)]) (ok_J9_floorMod_7cf53 h) (by decide +kernel : decode cX9_remember 79 = .ok (.invokestatic 28, 3)) rfl wd_836 wd_837 wd_11 wd_838 ⟨rfl, rfl⟩ hd_J9_floorMod_7cf53 ⟨Nat.le_of_ble_eq_true rfl, Nat.le_of_ble_eq_true rfl⟩ rfl rfl (Nat.le_of_ble_eq_true rfl) ⟨Nat.zero_le _, Nat.zero_le _⟩ (fun r21 S20 h => ?_)
  refine jPutI C 85 (by decide +kernel : decode cX9_remember 82 = .ok (.putfield 25, 3)) rfl hE t_v0 kX9 1 (by decide) rfl rfl (by decide) rfl wd_90 rfl rfl rfl ?_
  refine jTopS (fun S22 e_S22 => ?_)
  have h := h S22 e_S22
  refine jB C [(.aload_n 0, 1, 0), (.aload_n 0, 1, 0)] 87 [(3, .int x3), (0, .ref (b + v0)), (1, .ref (b + v1)), (2, .int v2)] [.ref (b + v0), .ref (b + v0)] (by decide +kernel) rfl rfl ?_
  refine jGetI C 90 (by decide +kernel : decode cX9_remember 87 = .ok (.getfield 15, 3)) rfl t_v0 kX9 2 (by decide) rfl rfl (by decide) wd_91 ?_
  refine jB C [(.iconst 1, 1, 1), (.iadd, 1, 0), (.bipush 16, 2, 16)] 94 [(3, .int x3), (0, .ref (b + v0)), (1, .ref (b + v1)), (2, .int v2)] [.int 16, .int ((S22.1 v0 2) + 1), .ref (b + v0)] (by decide +kernel) rfl rfl ?_
  refine jMin C 97 (by decide +kernel : decode cX9_remember 94 = .ok (.invokestatic 46, 3)) rfl wd_840 (Nat.le_of_ble_eq_true rfl) (Nat.le_of_ble_eq_true rfl) (Nat.le_of_ble_eq_true rfl) ?_
  refine jPutI C 100 (by decide +kernel : decode cX9_remember 97 = .ok (.putfield 15, 3)) rfl hE t_v0 kX9 2 (by decide) rfl rfl (by decide) rfl wd_91 rfl rfl rfl ?_
  refine jTopS (fun S23 e_S23 => ?_)
  have h := h S23 e_S23
  exact jRetV C (by decide +kernel : decode cX9_remember 100 = .ok (.return_, 1)) (Nat.le_refl _) (Nat.le_refl _) ⟨rfl, h⟩
theorem ok_X9_remember {G : Gm} {v0 : Nat} {v1 : Nat} {v2 : Int32} {S : St} {Q : St → Prop} (t_v0 : ok G 8 v0) (t_v1 : ok G 4 v1) (h : f_X9_remember G v0 v1 v2 Q S) : MT yX9_remember cX9_remember 4 none rm_X9_remember 0 0 (fun b => [.ref (b + v0), .ref (b + v1), .int v2]) G S (QV (fun G1 S1 => G1 = G ∧ Q S1)) := MT.ofJ (by decide) (fun b => [(0, .ref (b + v0)), (1, .ref (b + v1)), (2, .int v2)]) (fun b => rfl) (fun b => Nat.le_of_ble_eq_true rfl) (fun l b D cy p e s m below meth c C hE hn => j_X9_remember C hE t_v0 t_v1 h)
theorem hd_X9_remember : yX9_remember.cls ≠ "java/lang/invoke/MethodHandle" ∧ yX9_remember.cls ≠ "java/lang/invoke/VarHandle" ∧ (parseMethodDescriptor yX9_remember.desc).map (fun d => d.parameters.length) = some 2 := by decide +kernel
def f_X5_setSin (G : Gm) (v0 : Nat) (v1 : Int32) (v2 : Int32) (v3 : Int32) (Q : St → Prop) (S : St) : Prop :=
  f_X5_has G v0 v1 (fun r2 S1 => (if r2 = 0 then Q S1 else f_X10_isKind G v2 (fun r5 S4 => (if r5 = 0 then Q S4 else (∃ a7, S4.2.2 v0 1 = some a7 ∧ f_X10_nearest G v3 0 8 (fun r9 S8 => (vp_in ((v1 * 4) + v2) (G.2.1 a7) ∧ ∀ S11, S11 = uI S8 a7 ((v1 * 4) + v2).toNatClampNeg r9 → Q S11)) S4))) S1)) S
abbrev rm_X5_setSin : Room := { frames := 2, cells := 0, slots := 0, locals := 52 }
set_option maxHeartbeats 4000000 in
set_option maxRecDepth 100000 in
theorem j_X5_setSin {p : Program} {l : Launch} {e : Env} {s : State} {m : MethodId} {args : Array Value} {below : List Frame} {meth : Method} {c : Code} {b : Nat} {D : va_G} {cy : Nat → ClassId} {G : Gm} {v0 : Nat} {v1 : Int32} {v2 : Int32} {v3 : Int32} {S : St} {Q : St → Prop} (C : CX p s m args meth c b D cy cX5_setSin RX5 4 none) (hE : s.heap.size + 0 ≤ b + G.2.2) (t_v0 : ok G 4 v0) (h : f_X5_setSin G v0 v1 v2 v3 Q S) : J p l e rm_X5_setSin s m args below meth c b D cy 4 (zV b D cy below args s G Q) 0 0 G S 0 [(0, .ref (b + v0)), (1, .int v1), (2, .int v2), (3, .int v3)] [] := by
  unfold f_X5_setSin at h
  refine jB C [(.aload_n 0, 1, 0), (.iload_n 1, 1, 0)] 2 [(0, .ref (b + v0)), (1, .int v1), (2, .int v2), (3, .int v3)] [.int v1, .ref (b + v0)] (by decide +kernel) rfl rfl ?_
  refine jcV_I C 5 (rest := []) (ok_X5_has t_v0 h) (by decide +kernel : decode cX5_setSin 2 = .ok (.invokevirtual 66, 3)) rfl wd_371 wd_373 wp_4 wd_2 wd_374 ⟨rfl, rfl⟩ hd_X5_has ⟨Nat.le_of_ble_eq_true rfl, Nat.le_of_ble_eq_true rfl⟩ t_v0 kX5 (by decide) rfl rfl rfl (Nat.le_of_ble_eq_true rfl) ⟨Nat.zero_le _, Nat.zero_le _⟩ (fun r2 S1 h => ?_)
  refine jIf_eq C 8 32 (by decide +kernel : decode cX5_setSin 5 = .ok (.ifCond .eq 27, 3)) rfl rfl (fun c3 => ?_) (fun c3 => ?_)
  · have h := it1 h c3
    exact jRetV C (by decide +kernel : decode cX5_setSin 32 = .ok (.return_, 1)) (Nat.le_refl _) (Nat.le_refl _) ⟨rfl, h⟩
  · have h := it2 h c3
    refine jB C [(.iload_n 2, 1, 0)] 9 [(0, .ref (b + v0)), (1, .int v1), (2, .int v2), (3, .int v3)] [.int v2] (by decide +kernel) rfl rfl ?_
    refine jcSN_I C 12 (rest := []) (ok_X10_isKind h) (by decide +kernel : decode cX5_setSin 9 = .ok (.invokestatic 70, 3)) rfl wn_375 wd_376 wd_1 wd_377 ⟨rfl, rfl⟩ hd_X10_isKind ⟨Nat.le_of_ble_eq_true rfl, Nat.le_of_ble_eq_true rfl⟩ rfl rfl (Nat.le_of_ble_eq_true rfl) ⟨Nat.zero_le _, Nat.zero_le _⟩ (fun r5 S4 h => ?_)
    refine jIf_eq C 15 32 (by decide +kernel : decode cX5_setSin 12 = .ok (.ifCond .eq 20, 3)) rfl rfl (fun c6 => ?_) (fun c6 => ?_)
    · have h := it1 h c6
      exact jRetV C (by decide +kernel : decode cX5_setSin 32 = .ok (.return_, 1)) (Nat.le_refl _) (Nat.le_refl _) ⟨rfl, h⟩
    · have h := it2 h c6
      refine jB C [(.aload_n 0, 1, 0)] 16 [(0, .ref (b + v0)), (1, .int v1), (2, .int v2), (3, .int v3)] [.ref (b + v0)] (by decide +kernel) rfl rfl ?_
      obtain ⟨a7, e_a7, h⟩ := h
      refine jGetR C 19 (by decide +kernel : decode cX5_setSin 16 = .ok (.getfield 9, 3)) rfl t_v0 kX5 1 (by decide) rfl rfl (by decide) wd_40 e_a7 rfl (fun t_a7 => ?_)
      refine jB C [(.iload_n 1, 1, 0), (.iconst 4, 1, 4), (.imul, 1, 0), (.iload_n 2, 1, 0), (.iadd, 1, 0), (.iload_n 3, 1, 0), (.iconst 0, 1, 0), (.bipush 8, 2, 8)] 28 [(0, .ref (b + v0)), (1, .int v1), (2, .int v2), (3, .int v3)] [.int 8, .int 0, .int v3, .int ((v1 * 4) + v2), .ref (b + a7)] (by decide +kernel) rfl rfl ?_
      refine jcSN_I C 31 (rest := [.int ((v1 * 4) + v2), .ref (b + a7)]) (ok_X10_nearest h) (by decide +kernel : decode cX5_setSin 28 = .ok (.invokestatic 73, 3)) rfl wn_378 wd_241 wd_1 wd_242 ⟨rfl, rfl⟩ hd_X10_nearest ⟨Nat.le_of_ble_eq_true rfl, Nat.le_of_ble_eq_true rfl⟩ rfl rfl (Nat.le_of_ble_eq_true rfl) ⟨Nat.zero_le _, Nat.zero_le _⟩ (fun r9 S8 h => ?_)
      obtain ⟨y10, h⟩ := h
      refine jIast C 32 (by decide +kernel : decode cX5_setSin 31 = .ok (.iastore, 1)) rfl hE t_a7 y10 ?_
      refine jTopS (fun S11 e_S11 => ?_)
      have h := h S11 e_S11
      exact jRetV C (by decide +kernel : decode cX5_setSin 32 = .ok (.return_, 1)) (Nat.le_refl _) (Nat.le_refl _) ⟨rfl, h⟩
theorem ok_X5_setSin {G : Gm} {v0 : Nat} {v1 : Int32} {v2 : Int32} {v3 : Int32} {S : St} {Q : St → Prop} (t_v0 : ok G 4 v0) (h : f_X5_setSin G v0 v1 v2 v3 Q S) : MT yX5_setSin cX5_setSin 4 none rm_X5_setSin 0 0 (fun b => [.ref (b + v0), .int v1, .int v2, .int v3]) G S (QV (fun G1 S1 => G1 = G ∧ Q S1)) := MT.ofJ (by decide) (fun b => [(0, .ref (b + v0)), (1, .int v1), (2, .int v2), (3, .int v3)]) (fun b => rfl) (fun b => Nat.le_of_ble_eq_true rfl) (fun l b D cy p e s m below meth c C hE hn => j_X5_setSin C hE t_v0 h)
theorem hd_X5_setSin : yX5_setSin.cls ≠ "java/lang/invoke/MethodHandle" ∧ yX5_setSin.cls ≠ "java/lang/invoke/VarHandle" ∧ (parseMethodDescriptor yX5_setSin.desc).map (fun d => d.parameters.length) = some 3 := by decide +kernel
def f_X2_aboutSin (G : Gm) (v0 : Nat) (v1 : Nat) (v2 : Int32) (v3 : Int32) (Q : St → Prop) (S : St) : Prop :=
  (∃ a1, S.2.2 v0 0 = some a1 ∧ (vp_in 0 (G.2.1 a1) ∧ ∀ S3, S3 = uI S a1 0.toNatClampNeg v2 → (∃ a4, S3.2.2 v0 0 = some a4 ∧ (vp_in 1 (G.2.1 a4) ∧ ∀ S6, S6 = uI S3 a4 1.toNatClampNeg v3 → (∃ a7, S6.2.2 v0 0 = some a7 ∧ f_X5_sinOf G v1 v2 v3 (fun r9 S8 => (vp_in 2 (G.2.1 a7) ∧ ∀ S11, S11 = uI S8 a7 2.toNatClampNeg r9 → (∃ a12, S11.2.2 v0 0 = some a12 ∧ f_X5_sinsOf G v1 v2 (fun r14 S13 => (vp_in 3 (G.2.1 a12) ∧ ∀ S16, S16 = uI S13 a12 3.toNatClampNeg r14 → (∃ a17, S16.2.2 v0 0 = some a17 ∧ (vp_in 4 (G.2.1 a17) ∧ ∀ S19, S19 = uI S16 a17 4.toNatClampNeg (-1) → (∃ a20, S19.2.2 v0 0 = some a20 ∧ (vp_in 5 (G.2.1 a20) ∧ ∀ S22, S22 = uI S19 a20 5.toNatClampNeg (-1) → (∃ a23, S22.2.2 v0 0 = some a23 ∧ (vp_in 6 (G.2.1 a23) ∧ ∀ S25, S25 = uI S22 a23 6.toNatClampNeg (-1) → (∃ a26, S25.2.2 v0 0 = some a26 ∧ f_X5_termOf G v1 0 (fun r28 S27 => (vp_in 7 (G.2.1 a26) ∧ ∀ S30, S30 = uI S27 a26 7.toNatClampNeg r28 → (∃ a31, S30.2.2 v0 0 = some a31 ∧ f_X5_termOf G v1 2 (fun r33 S32 => (vp_in 8 (G.2.1 a31) ∧ ∀ S35, S35 = uI S32 a31 8.toNatClampNeg r33 → Q S35)) S30))) S25))))))))) S11))) S6)))))
abbrev rm_X2_aboutSin : Room := { frames := 2, cells := 0, slots := 0, locals := 44 }
set_option maxHeartbeats 4000000 in
set_option maxRecDepth 100000 in
theorem j_X2_aboutSin {p : Program} {l : Launch} {e : Env} {s : State} {m : MethodId} {args : Array Value} {below : List Frame} {meth : Method} {c : Code} {b : Nat} {D : va_G} {cy : Nat → ClassId} {G : Gm} {v0 : Nat} {v1 : Nat} {v2 : Int32} {v3 : Int32} {S : St} {Q : St → Prop} (C : CX p s m args meth c b D cy cX2_aboutSin RX2 4 none) (hE : s.heap.size + 0 ≤ b + G.2.2) (t_v0 : ok G 2 v0) (t_v1 : ok G 4 v1) (h : f_X2_aboutSin G v0 v1 v2 v3 Q S) : J p l e rm_X2_aboutSin s m args below meth c b D cy 4 (zV b D cy below args s G Q) 0 0 G S 0 [(0, .ref (b + v0)), (1, .ref (b + v1)), (2, .int v2), (3, .int v3)] [] := by
  unfold f_X2_aboutSin at h
  refine jB C [(.aload_n 0, 1, 0)] 1 [(0, .ref (b + v0)), (1, .ref (b + v1)), (2, .int v2), (3, .int v3)] [.ref (b + v0)] (by decide +kernel) rfl rfl ?_
  obtain ⟨a1, e_a1, h⟩ := h
  refine jGetR C 4 (by decide +kernel : decode cX2_aboutSin 1 = .ok (.getfield 9, 3)) rfl t_v0 kX2 0 (by decide) rfl rfl (by decide) wd_117 e_a1 rfl (fun t_a1 => ?_)
  refine jB C [(.iconst 0, 1, 0), (.iload_n 2, 1, 0)] 6 [(0, .ref (b + v0)), (1, .ref (b + v1)), (2, .int v2), (3, .int v3)] [.int v2, .int 0, .ref (b + a1)] (by decide +kernel) rfl rfl ?_
  obtain ⟨y2, h⟩ := h
  refine jIast C 7 (by decide +kernel : decode cX2_aboutSin 6 = .ok (.iastore, 1)) rfl hE t_a1 y2 ?_
  refine jTopS (fun S3 e_S3 => ?_)
  have h := h S3 e_S3
  refine jB C [(.aload_n 0, 1, 0)] 8 [(0, .ref (b + v0)), (1, .ref (b + v1)), (2, .int v2), (3, .int v3)] [.ref (b + v0)] (by decide +kernel) rfl rfl ?_
  obtain ⟨a4, e_a4, h⟩ := h
  refine jGetR C 11 (by decide +kernel : decode cX2_aboutSin 8 = .ok (.getfield 9, 3)) rfl t_v0 kX2 0 (by decide) rfl rfl (by decide) wd_117 e_a4 rfl (fun t_a4 => ?_)
  refine jB C [(.iconst 1, 1, 1), (.iload_n 3, 1, 0)] 13 [(0, .ref (b + v0)), (1, .ref (b + v1)), (2, .int v2), (3, .int v3)] [.int v3, .int 1, .ref (b + a4)] (by decide +kernel) rfl rfl ?_
  obtain ⟨y5, h⟩ := h
  refine jIast C 14 (by decide +kernel : decode cX2_aboutSin 13 = .ok (.iastore, 1)) rfl hE t_a4 y5 ?_
  refine jTopS (fun S6 e_S6 => ?_)
  have h := h S6 e_S6
  refine jB C [(.aload_n 0, 1, 0)] 15 [(0, .ref (b + v0)), (1, .ref (b + v1)), (2, .int v2), (3, .int v3)] [.ref (b + v0)] (by decide +kernel) rfl rfl ?_
  obtain ⟨a7, e_a7, h⟩ := h
  refine jGetR C 18 (by decide +kernel : decode cX2_aboutSin 15 = .ok (.getfield 9, 3)) rfl t_v0 kX2 0 (by decide) rfl rfl (by decide) wd_117 e_a7 rfl (fun t_a7 => ?_)
  refine jB C [(.iconst 2, 1, 2), (.aload_n 1, 1, 0), (.iload_n 2, 1, 0), (.iload_n 3, 1, 0)] 22 [(0, .ref (b + v0)), (1, .ref (b + v1)), (2, .int v2), (3, .int v3)] [.int v3, .int v2, .ref (b + v1), .int 2, .ref (b + a7)] (by decide +kernel) rfl rfl ?_
  refine jcVN_I C 25 (rest := [.int 2, .ref (b + a7)]) (ok_X5_sinOf t_v1 h) (by decide +kernel : decode cX2_aboutSin 22 = .ok (.invokevirtual 35, 3)) rfl wn_508 wd_398 wp_8 wd_2 wd_399 ⟨rfl, rfl⟩ hd_X5_sinOf ⟨Nat.le_of_ble_eq_true rfl, Nat.le_of_ble_eq_true rfl⟩ t_v1 kX5 (by decide) rfl rfl rfl (Nat.le_of_ble_eq_true rfl) ⟨Nat.zero_le _, Nat.zero_le _⟩ (fun r9 S8 h => ?_)
  obtain ⟨y10, h⟩ := h
  refine jIast C 26 (by decide +kernel : decode cX2_aboutSin 25 = .ok (.iastore, 1)) rfl hE t_a7 y10 ?_
  refine jTopS (fun S11 e_S11 => ?_)
  have h := h S11 e_S11
  refine jB C [(.aload_n 0, 1, 0)] 27 [(0, .ref (b + v0)), (1, .ref (b + v1)), (2, .int v2), (3, .int v3)] [.ref (b + v0)] (by decide +kernel) rfl rfl ?_
  obtain ⟨a12, e_a12, h⟩ := h
  refine jGetR C 30 (by decide +kernel : decode cX2_aboutSin 27 = .ok (.getfield 9, 3)) rfl t_v0 kX2 0 (by decide) rfl rfl (by decide) wd_117 e_a12 rfl (fun t_a12 => ?_)
  refine jB C [(.iconst 3, 1, 3), (.aload_n 1, 1, 0), (.iload_n 2, 1, 0)] 33 [(0, .ref (b + v0)), (1, .ref (b + v1)), (2, .int v2), (3, .int v3)] [.int v2, .ref (b + v1), .int 3, .ref (b + a12)] (by decide +kernel) rfl rfl ?_
  refine jcVN_I C 36 (rest := [.int 3, .ref (b + a12)]) (ok_X5_sinsOf t_v1 h) (by decide +kernel : decode cX2_aboutSin 33 = .ok (.invokevirtual 61, 3)) rfl wn_434 wd_436 wp_14 wd_2 wd_437 ⟨rfl, rfl⟩ hd_X5_sinsOf ⟨Nat.le_of_ble_eq_true rfl, Nat.le_of_ble_eq_true rfl⟩ t_v1 kX5 (by decide) rfl rfl rfl (Nat.le_of_ble_eq_true rfl) ⟨Nat.zero_le _, Nat.zero_le _⟩ (fun r14 S13 h => ?_)
  obtain ⟨y15, h⟩ := h
  refine jIast C 37 (by decide +kernel : decode cX2_aboutSin 36 = .ok (.iastore, 1)) rfl hE t_a12 y15 ?_
  refine jTopS (fun S16 e_S16 => ?_)
  have h := h S16 e_S16
  refine jB C [(.aload_n 0, 1, 0)] 38 [(0, .ref (b + v0)), (1, .ref (b + v1)), (2, .int v2), (3, .int v3)] [.ref (b + v0)] (by decide +kernel) rfl rfl ?_
  obtain ⟨a17, e_a17, h⟩ := h
  refine jGetR C 41 (by decide +kernel : decode cX2_aboutSin 38 = .ok (.getfield 9, 3)) rfl t_v0 kX2 0 (by decide) rfl rfl (by decide) wd_117 e_a17 rfl (fun t_a17 => ?_)
  refine jB C [(.iconst 4, 1, 4), (.iconst (-1), 1, (-1))] 43 [(0, .ref (b + v0)), (1, .ref (b + v1)), (2, .int v2), (3, .int v3)] [.int (-1), .int 4, .ref (b + a17)] (by decide +kernel) rfl rfl ?_
  obtain ⟨y18, h⟩ := h
  refine jIast C 44 (by decide +kernel : decode cX2_aboutSin 43 = .ok (.iastore, 1)) rfl hE t_a17 y18 ?_
  refine jTopS (fun S19 e_S19 => ?_)
  have h := h S19 e_S19
  refine jB C [(.aload_n 0, 1, 0)] 45 [(0, .ref (b + v0)), (1, .ref (b + v1)), (2, .int v2), (3, .int v3)] [.ref (b + v0)] (by decide +kernel) rfl rfl ?_
  obtain ⟨a20, e_a20, h⟩ := h
  refine jGetR C 48 (by decide +kernel : decode cX2_aboutSin 45 = .ok (.getfield 9, 3)) rfl t_v0 kX2 0 (by decide) rfl rfl (by decide) wd_117 e_a20 rfl (fun t_a20 => ?_)
  refine jB C [(.iconst 5, 1, 5), (.iconst (-1), 1, (-1))] 50 [(0, .ref (b + v0)), (1, .ref (b + v1)), (2, .int v2), (3, .int v3)] [.int (-1), .int 5, .ref (b + a20)] (by decide +kernel) rfl rfl ?_
  obtain ⟨y21, h⟩ := h
  refine jIast C 51 (by decide +kernel : decode cX2_aboutSin 50 = .ok (.iastore, 1)) rfl hE t_a20 y21 ?_
  refine jTopS (fun S22 e_S22 => ?_)
  have h := h S22 e_S22
  refine jB C [(.aload_n 0, 1, 0)] 52 [(0, .ref (b + v0)), (1, .ref (b + v1)), (2, .int v2), (3, .int v3)] [.ref (b + v0)] (by decide +kernel) rfl rfl ?_
  obtain ⟨a23, e_a23, h⟩ := h
  refine jGetR C 55 (by decide +kernel : decode cX2_aboutSin 52 = .ok (.getfield 9, 3)) rfl t_v0 kX2 0 (by decide) rfl rfl (by decide) wd_117 e_a23 rfl (fun t_a23 => ?_)
  refine jB C [(.bipush 6, 2, 6), (.iconst (-1), 1, (-1))] 58 [(0, .ref (b + v0)), (1, .ref (b + v1)), (2, .int v2), (3, .int v3)] [.int (-1), .int 6, .ref (b + a23)] (by decide +kernel) rfl rfl ?_
  obtain ⟨y24, h⟩ := h
  refine jIast C 59 (by decide +kernel : decode cX2_aboutSin 58 = .ok (.iastore, 1)) rfl hE t_a23 y24 ?_
  refine jTopS (fun S25 e_S25 => ?_)
  have h := h S25 e_S25
  refine jB C [(.aload_n 0, 1, 0)] 60 [(0, .ref (b + v0)), (1, .ref (b + v1)), (2, .int v2), (3, .int v3)] [.ref (b + v0)] (by decide +kernel) rfl rfl ?_
  obtain ⟨a26, e_a26, h⟩ := h
  refine jGetR C 63 (by decide +kernel : decode cX2_aboutSin 60 = .ok (.getfield 9, 3)) rfl t_v0 kX2 0 (by decide) rfl rfl (by decide) wd_117 e_a26 rfl (fun t_a26 => ?_)
  refine jB C [(.bipush 7, 2, 7), (.aload_n 1, 1, 0), (.iconst 0, 1, 0)] 67 [(0, .ref (b + v0)), (1, .ref (b + v1)), (2, .int v2), (3, .int v3)] [.int 0, .ref (b + v1), .int 7, .ref (b + a26)] (by decide +kernel) rfl rfl ?_
  refine jcVN_I C 70 (rest := [.int 7, .ref (b + a26)]) (ok_X5_termOf t_v1 h) (by decide +kernel : decode cX2_aboutSin 67 = .ok (.invokevirtual 64, 3)) rfl wn_444 wd_418 wp_11 wd_2 wd_419 ⟨rfl, rfl⟩ hd_X5_termOf ⟨Nat.le_of_ble_eq_true rfl, Nat.le_of_ble_eq_true rfl⟩ t_v1 kX5 (by decide) rfl rfl rfl (Nat.le_of_ble_eq_true rfl) ⟨Nat.zero_le _, Nat.zero_le _⟩ (fun r28 S27 h => ?_)
  obtain ⟨y29, h⟩ := h
  refine jIast C 71 (by decide +kernel : decode cX2_aboutSin 70 = .ok (.iastore, 1)) rfl hE t_a26 y29 ?_
  refine jTopS (fun S30 e_S30 => ?_)
  have h := h S30 e_S30
  refine jB C [(.aload_n 0, 1, 0)] 72 [(0, .ref (b + v0)), (1, .ref (b + v1)), (2, .int v2), (3, .int v3)] [.ref (b + v0)] (by decide +kernel) rfl rfl ?_
  obtain ⟨a31, e_a31, h⟩ := h
  refine jGetR C 75 (by decide +kernel : decode cX2_aboutSin 72 = .ok (.getfield 9, 3)) rfl t_v0 kX2 0 (by decide) rfl rfl (by decide) wd_117 e_a31 rfl (fun t_a31 => ?_)
  refine jB C [(.bipush 8, 2, 8), (.aload_n 1, 1, 0), (.iconst 2, 1, 2)] 79 [(0, .ref (b + v0)), (1, .ref (b + v1)), (2, .int v2), (3, .int v3)] [.int 2, .ref (b + v1), .int 8, .ref (b + a31)] (by decide +kernel) rfl rfl ?_
  refine jcVN_I C 82 (rest := [.int 8, .ref (b + a31)]) (ok_X5_termOf t_v1 h) (by decide +kernel : decode cX2_aboutSin 79 = .ok (.invokevirtual 64, 3)) rfl wn_444 wd_418 wp_11 wd_2 wd_419 ⟨rfl, rfl⟩ hd_X5_termOf ⟨Nat.le_of_ble_eq_true rfl, Nat.le_of_ble_eq_true rfl⟩ t_v1 kX5 (by decide) rfl rfl rfl (Nat.le_of_ble_eq_true rfl) ⟨Nat.zero_le _, Nat.zero_le _⟩ (fun r33 S32 h => ?_)
  obtain ⟨y34, h⟩ := h
  refine jIast C 83 (by decide +kernel : decode cX2_aboutSin 82 = .ok (.iastore, 1)) rfl hE t_a31 y34 ?_
  refine jTopS (fun S35 e_S35 => ?_)
  have h := h S35 e_S35
  exact jRetV C (by decide +kernel : decode cX2_aboutSin 83 = .ok (.return_, 1)) (Nat.le_refl _) (Nat.le_refl _) ⟨rfl, h⟩
theorem ok_X2_aboutSin {G : Gm} {v0 : Nat} {v1 : Nat} {v2 : Int32} {v3 : Int32} {S : St} {Q : St → Prop} (t_v0 : ok G 2 v0) (t_v1 : ok G 4 v1) (h : f_X2_aboutSin G v0 v1 v2 v3 Q S) : MT yX2_aboutSin cX2_aboutSin 4 none rm_X2_aboutSin 0 0 (fun b => [.ref (b + v0), .ref (b + v1), .int v2, .int v3]) G S (QV (fun G1 S1 => G1 = G ∧ Q S1)) := MT.ofJ (by decide) (fun b => [(0, .ref (b + v0)), (1, .ref (b + v1)), (2, .int v2), (3, .int v3)]) (fun b => rfl) (fun b => Nat.le_of_ble_eq_true rfl) (fun l b D cy p e s m below meth c C hE hn => j_X2_aboutSin C hE t_v0 t_v1 h)
theorem hd_X2_aboutSin : yX2_aboutSin.cls ≠ "java/lang/invoke/MethodHandle" ∧ yX2_aboutSin.cls ≠ "java/lang/invoke/VarHandle" ∧ (parseMethodDescriptor yX2_aboutSin.desc).map (fun d => d.parameters.length) = some 3 := by decide +kernel
def f_X2_lensFor (G : Gm) (v0 : Nat) (v1 : Nat) (v2 : Option Nat) (v3 : Int32) (v4 : Int32) (Q : Int32 → St → Prop) (S : St) : Prop :=
  f_X2_aboutSin G v0 v1 v3 v4 (fun S1 => f_X2_lastTold G v0 v2 0 (fun r3 S2 => (if r3 = (-2147483648) then f_X5_sinOf G v1 v3 v4 (fun r6 S5 => (if r6 < 4 then Q 0 S5 else Q (v4 + 1) S5)) S2 else f_X10_nearest G r3 0 7 (fun r9 S8 => Q r9 S8) S2)) S1) S
abbrev rm_X2_lensFor : Room := { frames := 3, cells := 0, slots := 0, locals := 82 }
set_option maxHeartbeats 4000000 in
set_option maxRecDepth 100000 in
theorem j_X2_lensFor {p : Program} {l : Launch} {e : Env} {s : State} {m : MethodId} {args : Array Value} {below : List Frame} {meth : Method} {c : Code} {b : Nat} {D : va_G} {cy : Nat → ClassId} {G : Gm} {v0 : Nat} {v1 : Nat} {v2 : Option Nat} {v3 : Int32} {v4 : Int32} {S : St} {Q : Int32 → St → Prop} (C : CX p s m args meth c b D cy cX2_lensFor RX2 6 (some .int)) (hE : s.heap.size + 0 ≤ b + G.2.2) (t_v0 : ok G 2 v0) (t_v1 : ok G 4 v1) (t_v2 : ∀ z, v2 = some z → ok G 7 z) (h : f_X2_lensFor G v0 v1 v2 v3 v4 Q S) : J p l e rm_X2_lensFor s m args below meth c b D cy 6 (zI b D cy below args s G Q) 0 0 G S 0 [(0, .ref (b + v0)), (1, .ref (b + v1)), (2, rv b v2), (3, .int v3), (4, .int v4)] [] := by
  unfold f_X2_lensFor at h
  refine jB C [(.aload_n 0, 1, 0), (.aload_n 1, 1, 0), (.iload_n 3, 1, 0), (.iload 4, 2, 0)] 5 [(0, .ref (b + v0)), (1, .ref (b + v1)), (2, rv b v2), (3, .int v3), (4, .int v4)] [.int v4, .int v3, .ref (b + v1), .ref (b + v0)] (by decide +kernel) rfl rfl ?_
  refine jcV_V C 8 (rest := []) (ok_X2_aboutSin t_v0 t_v1 h) (by decide +kernel : decode cX2_lensFor 5 = .ok (.invokevirtual 22, 3)) rfl wd_504 wd_506 wp_25 wd_4 wd_507 ⟨rfl, rfl⟩ hd_X2_aboutSin ⟨Nat.le_of_ble_eq_true rfl, Nat.le_of_ble_eq_true rfl⟩ t_v0 kX2 (by decide) rfl rfl rfl (Nat.le_of_ble_eq_true rfl) ⟨Nat.zero_le _, Nat.zero_le _⟩ (fun S1 h => ?_)
  refine jB C [(.aload_n 0, 1, 0)] 9 [(0, .ref (b + v0)), (1, .ref (b + v1)), (2, rv b v2), (3, .int v3), (4, .int v4)] [.ref (b + v0)] (by decide +kernel) rfl rfl ?_
  refine jAloadQ_n C 10 (by decide +kernel : decode cX2_lensFor 9 = .ok (.aload_n 2, 1)) rfl 2 rfl ?_
  refine jB C [(.iconst 0, 1, 0)] 11 [(0, .ref (b + v0)), (1, .ref (b + v1)), (2, rv b v2), (3, .int v3), (4, .int v4)] [.int 0, rv b v2, .ref (b + v0)] (by decide +kernel) rfl rfl ?_
  refine jcV_I C 14 (rest := []) (ok_X2_lastTold t_v0 t_v2 h) (by decide +kernel : decode cX2_lensFor 11 = .ok (.invokevirtual 26, 3)) rfl wd_457 wd_459 wp_18 wd_4 wd_460 ⟨rfl, rfl⟩ hd_X2_lastTold ⟨Nat.le_of_ble_eq_true rfl, Nat.le_of_ble_eq_true rfl⟩ t_v0 kX2 (by decide) rfl rfl rfl (Nat.le_of_ble_eq_true rfl) ⟨Nat.zero_le _, Nat.zero_le _⟩ (fun r3 S2 h => ?_)
  refine jB C [(.istore 5, 2, 0), (.iload 5, 2, 0)] 18 [(5, .int r3), (0, .ref (b + v0)), (1, .ref (b + v1)), (2, rv b v2), (3, .int v3), (4, .int v4)] [.int r3] (by decide +kernel) rfl rfl ?_
  refine jLdc C 20 (by decide +kernel : decode cX2_lensFor 18 = .ok (.ldc 30, 2)) rfl wd_461 ?_
  refine jIcmp_eq C 23 32 (by decide +kernel : decode cX2_lensFor 20 = .ok (.if_icmp .eq 12, 3)) rfl rfl (fun c4 => ?_) (fun c4 => ?_)
  · have h := it1 h c4
    refine jB C [(.aload_n 1, 1, 0), (.iload_n 3, 1, 0), (.iload 4, 2, 0)] 36 [(5, .int r3), (0, .ref (b + v0)), (1, .ref (b + v1)), (2, rv b v2), (3, .int v3), (4, .int v4)] [.int v4, .int v3, .ref (b + v1)] (by decide +kernel) rfl rfl ?_
    refine jcVN_I C 39 (rest := []) (ok_X5_sinOf t_v1 h) (by decide +kernel : decode cX2_lensFor 36 = .ok (.invokevirtual 35, 3)) rfl wn_508 wd_398 wp_8 wd_2 wd_399 ⟨rfl, rfl⟩ hd_X5_sinOf ⟨Nat.le_of_ble_eq_true rfl, Nat.le_of_ble_eq_true rfl⟩ t_v1 kX5 (by decide) rfl rfl rfl (Nat.le_of_ble_eq_true rfl) ⟨Nat.zero_le _, Nat.zero_le _⟩ (fun r6 S5 h => ?_)
    refine jB C [(.iconst 4, 1, 4)] 40 [(5, .int r3), (0, .ref (b + v0)), (1, .ref (b + v1)), (2, rv b v2), (3, .int v3), (4, .int v4)] [.int 4, .int r6] (by decide +kernel) rfl rfl ?_
    refine jIcmp_lt C 43 50 (by decide +kernel : decode cX2_lensFor 40 = .ok (.if_icmp .lt 10, 3)) rfl rfl (fun c7 => ?_) (fun c7 => ?_)
    · have h := it1 h c7
      refine jB C [(.iconst 0, 1, 0)] 51 [(5, .int r3), (0, .ref (b + v0)), (1, .ref (b + v1)), (2, rv b v2), (3, .int v3), (4, .int v4)] [.int 0] (by decide +kernel) rfl rfl ?_
      exact jRetI C (by decide +kernel : decode cX2_lensFor 51 = .ok (.ireturn, 1)) (Nat.le_refl _) (Nat.le_refl _) ⟨rfl, h⟩
    · have h := it2 h c7
      refine jB C [(.iload 4, 2, 0), (.iconst 1, 1, 1), (.iadd, 1, 0)] 47 [(5, .int r3), (0, .ref (b + v0)), (1, .ref (b + v1)), (2, rv b v2), (3, .int v3), (4, .int v4)] [.int (v4 + 1)] (by decide +kernel) rfl rfl ?_
      refine jGoto C 51 (by decide +kernel : decode cX2_lensFor 47 = .ok (.goto 4, 3)) rfl ?_
      exact jRetI C (by decide +kernel : decode cX2_lensFor 51 = .ok (.ireturn, 1)) (Nat.le_refl _) (Nat.le_refl _) ⟨rfl, h⟩
  · have h := it2 h c4
    refine jB C [(.iload 5, 2, 0), (.iconst 0, 1, 0), (.bipush 7, 2, 7)] 28 [(5, .int r3), (0, .ref (b + v0)), (1, .ref (b + v1)), (2, rv b v2), (3, .int v3), (4, .int v4)] [.int 7, .int 0, .int r3] (by decide +kernel) rfl rfl ?_
    refine jcSN_I C 31 (rest := []) (ok_X10_nearest h) (by decide +kernel : decode cX2_lensFor 28 = .ok (.invokestatic 31, 3)) rfl wn_484 wd_241 wd_1 wd_242 ⟨rfl, rfl⟩ hd_X10_nearest ⟨Nat.le_of_ble_eq_true rfl, Nat.le_of_ble_eq_true rfl⟩ rfl rfl (Nat.le_of_ble_eq_true rfl) ⟨Nat.zero_le _, Nat.zero_le _⟩ (fun r9 S8 h => ?_)
    exact jRetI C (by decide +kernel : decode cX2_lensFor 31 = .ok (.ireturn, 1)) (Nat.le_refl _) (Nat.le_refl _) ⟨rfl, h⟩
theorem ok_X2_lensFor {G : Gm} {v0 : Nat} {v1 : Nat} {v2 : Option Nat} {v3 : Int32} {v4 : Int32} {S : St} {Q : Int32 → St → Prop} (t_v0 : ok G 2 v0) (t_v1 : ok G 4 v1) (t_v2 : ∀ z, v2 = some z → ok G 7 z) (h : f_X2_lensFor G v0 v1 v2 v3 v4 Q S) : MT yX2_lensFor cX2_lensFor 6 (some .int) rm_X2_lensFor 0 0 (fun b => [.ref (b + v0), .ref (b + v1), rv b v2, .int v3, .int v4]) G S (QI (fun r G1 S1 => G1 = G ∧ Q r S1)) := MT.ofJ (by decide) (fun b => [(0, .ref (b + v0)), (1, .ref (b + v1)), (2, rv b v2), (3, .int v3), (4, .int v4)]) (fun b => by cases v2 <;> rfl) (fun b => by cases v2 <;> exact Nat.le_of_ble_eq_true rfl) (fun l b D cy p e s m below meth c C hE hn => j_X2_lensFor C hE t_v0 t_v1 t_v2 h)
theorem hd_X2_lensFor : yX2_lensFor.cls ≠ "java/lang/invoke/MethodHandle" ∧ yX2_lensFor.cls ≠ "java/lang/invoke/VarHandle" ∧ (parseMethodDescriptor yX2_lensFor.desc).map (fun d => d.parameters.length) = some 4 := by decide +kernel
def f_X2_glassBy_6_n (G : Gm) (v0 : Nat) (v1 : Nat) (v2 : Option Nat) (v3 : Int32) (Q : Int32 → St → Prop) : Nat → Int32 → Int32 → St → Prop
  | 0, _, _, _ => False
  | n + 1, v4, v5, S => (if 4 ≤ v5 then Q v4 S else f_X2_lensFor G v0 v1 v2 v3 v5 (fun r3 S2 => (if r3 = 0 then (f_X2_glassBy_6_n G v0 v1 v2 v3 Q n) v4 (v5 + 1) S2 else (∀ x5 : Int32, x5 = ((v4 * 10) + r3) + 1 → (f_X2_glassBy_6_n G v0 v1 v2 v3 Q n) x5 (v5 + 1) S2))) S)
def f_X2_glassBy_6 (G : Gm) (v0 : Nat) (v1 : Nat) (v2 : Option Nat) (v3 : Int32) (Q : Int32 → St → Prop) (v4 : Int32) (v5 : Int32) (S : St) : Prop := ∃ n, f_X2_glassBy_6_n G v0 v1 v2 v3 Q n v4 v5 S
def f_X2_glassBy (G : Gm) (v0 : Nat) (v1 : Nat) (v2 : Option Nat) (v3 : Int32) (Q : Int32 → St → Prop) (S : St) : Prop :=
  f_X2_glassBy_6 G v0 v1 v2 v3 Q 0 0 S
abbrev rm_X2_glassBy : Room := { frames := 4, cells := 0, slots := 0, locals := 107 }
set_option maxHeartbeats 4000000 in
set_option maxRecDepth 100000 in
theorem j_X2_glassBy_6_n {p : Program} {l : Launch} {e : Env} {s : State} {m : MethodId} {args : Array Value} {below : List Frame} {meth : Method} {c : Code} {b : Nat} {D : va_G} {cy : Nat → ClassId} {G : Gm} {v0 : Nat} {v1 : Nat} {v2 : Option Nat} {v3 : Int32} {Q : Int32 → St → Prop} (C : CX p s m args meth c b D cy cX2_glassBy RX2 7 (some .int)) (hE : s.heap.size + 0 ≤ b + G.2.2) (t_v0 : ok G 2 v0) (t_v1 : ok G 4 v1) (t_v2 : ∀ z, v2 = some z → ok G 7 z) : ∀ n (v4 : Int32) (v5 : Int32) S, f_X2_glassBy_6_n G v0 v1 v2 v3 Q n v4 v5 S → J p l e rm_X2_glassBy s m args below meth c b D cy 7 (zI b D cy below args s G Q) 0 0 G S 6 [(0, .ref (b + v0)), (1, .ref (b + v1)), (2, rv b v2), (3, .int v3), (4, .int v4), (5, .int v5)] [] := by
  intro n
  induction n with
  | zero => intro v4 v5 S h; exact h.elim
  | succ n ih =>
    intro v4 v5 S h
    unfold f_X2_glassBy_6_n at h
    refine jB C [(.iload 5, 2, 0), (.iconst 4, 1, 4)] 9 [(0, .ref (b + v0)), (1, .ref (b + v1)), (2, rv b v2), (3, .int v3), (4, .int v4), (5, .int v5)] [.int 4, .int v5] (by decide +kernel) rfl rfl ?_
    refine jIcmp_ge C 12 46 (by decide +kernel : decode cX2_glassBy 9 = .ok (.if_icmp .ge 37, 3)) rfl rfl (fun c1 => ?_) (fun c1 => ?_)
    · have h := it1 h c1
      refine jB C [(.iload 4, 2, 0)] 48 [(0, .ref (b + v0)), (1, .ref (b + v1)), (2, rv b v2), (3, .int v3), (4, .int v4), (5, .int v5)] [.int v4] (by decide +kernel) rfl rfl ?_
      exact jRetI C (by decide +kernel : decode cX2_glassBy 48 = .ok (.ireturn, 1)) (Nat.le_refl _) (Nat.le_refl _) ⟨rfl, h⟩
    · have h := it2 h c1
      refine jB C [(.aload_n 0, 1, 0), (.aload_n 1, 1, 0)] 14 [(0, .ref (b + v0)), (1, .ref (b + v1)), (2, rv b v2), (3, .int v3), (4, .int v4), (5, .int v5)] [.ref (b + v1), .ref (b + v0)] (by decide +kernel) rfl rfl ?_
      refine jAloadQ_n C 15 (by decide +kernel : decode cX2_glassBy 14 = .ok (.aload_n 2, 1)) rfl 2 rfl ?_
      refine jB C [(.iload_n 3, 1, 0), (.iload 5, 2, 0)] 18 [(0, .ref (b + v0)), (1, .ref (b + v1)), (2, rv b v2), (3, .int v3), (4, .int v4), (5, .int v5)] [.int v5, .int v3, rv b v2, .ref (b + v1), .ref (b + v0)] (by decide +kernel) rfl rfl ?_
      refine jcV_I C 21 (rest := []) (ok_X2_lensFor t_v0 t_v1 t_v2 h) (by decide +kernel : decode cX2_glassBy 18 = .ok (.invokevirtual 57, 3)) rfl wd_847 wd_502 wp_24 wd_4 wd_503 ⟨rfl, rfl⟩ hd_X2_lensFor ⟨Nat.le_of_ble_eq_true rfl, Nat.le_of_ble_eq_true rfl⟩ t_v0 kX2 (by decide) rfl rfl rfl (Nat.le_of_ble_eq_true rfl) ⟨Nat.zero_le _, Nat.zero_le _⟩ (fun r3 S2 h => ?_)
      refine jB C [(.istore 6, 2, 0), (.iload 6, 2, 0)] 25 [(6, .int r3), (0, .ref (b + v0)), (1, .ref (b + v1)), (2, rv b v2), (3, .int v3), (4, .int v4), (5, .int v5)] [.int r3] (by decide +kernel) rfl rfl ?_
      refine jIf_eq C 28 40 (by decide +kernel : decode cX2_glassBy 25 = .ok (.ifCond .eq 15, 3)) rfl rfl (fun c4 => ?_) (fun c4 => ?_)
      · have h := it1 h c4
        refine jB C [(.iinc 5 1, 3, 1)] 43 [(5, .int (v5 + 1)), (6, .int r3), (0, .ref (b + v0)), (1, .ref (b + v1)), (2, rv b v2), (3, .int v3), (4, .int v4)] [] (by decide +kernel) rfl rfl ?_
        refine jGoto C 6 (by decide +kernel : decode cX2_glassBy 43 = .ok (.goto (-37), 3)) rfl ?_
        refine jSub [2, 3, 4, 5, 6, 0] rfl ?_
        exact ih v4 (v5 + 1) S2 h
      · have h := it2 h c4
        refine jB C [(.iload 4, 2, 0), (.bipush 10, 2, 10), (.imul, 1, 0), (.iload 6, 2, 0), (.iadd, 1, 0), (.iconst 1, 1, 1), (.iadd, 1, 0)] 38 [(6, .int r3), (0, .ref (b + v0)), (1, .ref (b + v1)), (2, rv b v2), (3, .int v3), (4, .int v4), (5, .int v5)] [.int (((v4 * 10) + r3) + 1)] (by decide +kernel) rfl rfl ?_
        refine jTopI (fun x5 e_x5 => ?_)
        have h := h x5 e_x5
        refine jB C [(.istore 4, 2, 0), (.iinc 5 1, 3, 1)] 43 [(5, .int (v5 + 1)), (4, .int x5), (6, .int r3), (0, .ref (b + v0)), (1, .ref (b + v1)), (2, rv b v2), (3, .int v3)] [] (by decide +kernel) rfl rfl ?_
        refine jGoto C 6 (by decide +kernel : decode cX2_glassBy 43 = .ok (.goto (-37), 3)) rfl ?_
        refine jSub [3, 4, 5, 6, 1, 0] rfl ?_
        exact ih x5 (v5 + 1) S2 h
theorem j_X2_glassBy_6 {p : Program} {l : Launch} {e : Env} {s : State} {m : MethodId} {args : Array Value} {below : List Frame} {meth : Method} {c : Code} {b : Nat} {D : va_G} {cy : Nat → ClassId} {G : Gm} {v0 : Nat} {v1 : Nat} {v2 : Option Nat} {v3 : Int32} {v4 : Int32} {v5 : Int32} {S : St} {Q : Int32 → St → Prop} (C : CX p s m args meth c b D cy cX2_glassBy RX2 7 (some .int)) (hE : s.heap.size + 0 ≤ b + G.2.2) (t_v0 : ok G 2 v0) (t_v1 : ok G 4 v1) (t_v2 : ∀ z, v2 = some z → ok G 7 z) (h : f_X2_glassBy_6 G v0 v1 v2 v3 Q v4 v5 S) : J p l e rm_X2_glassBy s m args below meth c b D cy 7 (zI b D cy below args s G Q) 0 0 G S 6 [(0, .ref (b + v0)), (1, .ref (b + v1)), (2, rv b v2), (3, .int v3), (4, .int v4), (5, .int v5)] [] := by
  obtain ⟨n, h⟩ := h
  exact j_X2_glassBy_6_n C hE t_v0 t_v1 t_v2 n v4 v5 S h
set_option maxHeartbeats 4000000 in
set_option maxRecDepth 100000 in
theorem j_X2_glassBy {p : Program} {l : Launch} {e : Env} {s : State} {m : MethodId} {args : Array Value} {below : List Frame} {meth : Method} {c : Code} {b : Nat} {D : va_G} {cy : Nat → ClassId} {G : Gm} {v0 : Nat} {v1 : Nat} {v2 : Option Nat} {v3 : Int32} {S : St} {Q : Int32 → St → Prop} (C : CX p s m args meth c b D cy cX2_glassBy RX2 7 (some .int)) (hE : s.heap.size + 0 ≤ b + G.2.2) (t_v0 : ok G 2 v0) (t_v1 : ok G 4 v1) (t_v2 : ∀ z, v2 = some z → ok G 7 z) (h : f_X2_glassBy G v0 v1 v2 v3 Q S) : J p l e rm_X2_glassBy s m args below meth c b D cy 7 (zI b D cy below args s G Q) 0 0 G S 0 [(0, .ref (b + v0)), (1, .ref (b + v1)), (2, rv b v2), (3, .int v3)] [] := by
  unfold f_X2_glassBy at h
  refine jB C [(.iconst 0, 1, 0), (.istore 4, 2, 0), (.iconst 0, 1, 0), (.istore 5, 2, 0)] 6 [(5, .int 0), (4, .int 0), (0, .ref (b + v0)), (1, .ref (b + v1)), (2, rv b v2), (3, .int v3)] [] (by decide +kernel) rfl rfl ?_
  refine jSub [2, 3, 4, 5, 1, 0] rfl ?_
  exact j_X2_glassBy_6 C hE t_v0 t_v1 t_v2 h
theorem ok_X2_glassBy {G : Gm} {v0 : Nat} {v1 : Nat} {v2 : Option Nat} {v3 : Int32} {S : St} {Q : Int32 → St → Prop} (t_v0 : ok G 2 v0) (t_v1 : ok G 4 v1) (t_v2 : ∀ z, v2 = some z → ok G 7 z) (h : f_X2_glassBy G v0 v1 v2 v3 Q S) : MT yX2_glassBy cX2_glassBy 7 (some .int) rm_X2_glassBy 0 0 (fun b => [.ref (b + v0), .ref (b + v1), rv b v2, .int v3]) G S (QI (fun r G1 S1 => G1 = G ∧ Q r S1)) := MT.ofJ (by decide) (fun b => [(0, .ref (b + v0)), (1, .ref (b + v1)), (2, rv b v2), (3, .int v3)]) (fun b => by cases v2 <;> rfl) (fun b => by cases v2 <;> exact Nat.le_of_ble_eq_true rfl) (fun l b D cy p e s m below meth c C hE hn => j_X2_glassBy C hE t_v0 t_v1 t_v2 h)
theorem hd_X2_glassBy : yX2_glassBy.cls ≠ "java/lang/invoke/MethodHandle" ∧ yX2_glassBy.cls ≠ "java/lang/invoke/VarHandle" ∧ (parseMethodDescriptor yX2_glassBy.desc).map (fun d => d.parameters.length) = some 3 := by decide +kernel
def f_X5_setGlass (G : Gm) (v0 : Nat) (v1 : Int32) (v2 : Int32) (Q : St → Prop) (S : St) : Prop :=
  f_X5_has G v0 v1 (fun r2 S1 => (if r2 = 0 then Q S1 else (∃ a4, S1.2.2 v0 2 = some a4 ∧ (vp_in v1 (G.2.1 a4) ∧ ∀ S6, S6 = uI S1 a4 v1.toNatClampNeg v2 → Q S6)))) S
abbrev rm_X5_setGlass : Room := { frames := 1, cells := 0, slots := 0, locals := 21 }
set_option maxHeartbeats 4000000 in
set_option maxRecDepth 100000 in
theorem j_X5_setGlass {p : Program} {l : Launch} {e : Env} {s : State} {m : MethodId} {args : Array Value} {below : List Frame} {meth : Method} {c : Code} {b : Nat} {D : va_G} {cy : Nat → ClassId} {G : Gm} {v0 : Nat} {v1 : Int32} {v2 : Int32} {S : St} {Q : St → Prop} (C : CX p s m args meth c b D cy cX5_setGlass RX5 3 none) (hE : s.heap.size + 0 ≤ b + G.2.2) (t_v0 : ok G 4 v0) (h : f_X5_setGlass G v0 v1 v2 Q S) : J p l e rm_X5_setGlass s m args below meth c b D cy 3 (zV b D cy below args s G Q) 0 0 G S 0 [(0, .ref (b + v0)), (1, .int v1), (2, .int v2)] [] := by
  unfold f_X5_setGlass at h
  refine jB C [(.aload_n 0, 1, 0), (.iload_n 1, 1, 0)] 2 [(0, .ref (b + v0)), (1, .int v1), (2, .int v2)] [.int v1, .ref (b + v0)] (by decide +kernel) rfl rfl ?_
  refine jcV_I C 5 (rest := []) (ok_X5_has t_v0 h) (by decide +kernel : decode cX5_setGlass 2 = .ok (.invokevirtual 66, 3)) rfl wd_371 wd_373 wp_4 wd_2 wd_374 ⟨rfl, rfl⟩ hd_X5_has ⟨Nat.le_of_ble_eq_true rfl, Nat.le_of_ble_eq_true rfl⟩ t_v0 kX5 (by decide) rfl rfl rfl (Nat.le_of_ble_eq_true rfl) ⟨Nat.zero_le _, Nat.zero_le _⟩ (fun r2 S1 h => ?_)
  refine jIf_eq C 8 15 (by decide +kernel : decode cX5_setGlass 5 = .ok (.ifCond .eq 10, 3)) rfl rfl (fun c3 => ?_) (fun c3 => ?_)
  · have h := it1 h c3
    exact jRetV C (by decide +kernel : decode cX5_setGlass 15 = .ok (.return_, 1)) (Nat.le_refl _) (Nat.le_refl _) ⟨rfl, h⟩
  · have h := it2 h c3
    refine jB C [(.aload_n 0, 1, 0)] 9 [(0, .ref (b + v0)), (1, .int v1), (2, .int v2)] [.ref (b + v0)] (by decide +kernel) rfl rfl ?_
    obtain ⟨a4, e_a4, h⟩ := h
    refine jGetR C 12 (by decide +kernel : decode cX5_setGlass 9 = .ok (.getfield 15, 3)) rfl t_v0 kX5 2 (by decide) rfl rfl (by decide) wd_42 e_a4 rfl (fun t_a4 => ?_)
    refine jB C [(.iload_n 1, 1, 0), (.iload_n 2, 1, 0)] 14 [(0, .ref (b + v0)), (1, .int v1), (2, .int v2)] [.int v2, .int v1, .ref (b + a4)] (by decide +kernel) rfl rfl ?_
    obtain ⟨y5, h⟩ := h
    refine jIast C 15 (by decide +kernel : decode cX5_setGlass 14 = .ok (.iastore, 1)) rfl hE t_a4 y5 ?_
    refine jTopS (fun S6 e_S6 => ?_)
    have h := h S6 e_S6
    exact jRetV C (by decide +kernel : decode cX5_setGlass 15 = .ok (.return_, 1)) (Nat.le_refl _) (Nat.le_refl _) ⟨rfl, h⟩
theorem ok_X5_setGlass {G : Gm} {v0 : Nat} {v1 : Int32} {v2 : Int32} {S : St} {Q : St → Prop} (t_v0 : ok G 4 v0) (h : f_X5_setGlass G v0 v1 v2 Q S) : MT yX5_setGlass cX5_setGlass 3 none rm_X5_setGlass 0 0 (fun b => [.ref (b + v0), .int v1, .int v2]) G S (QV (fun G1 S1 => G1 = G ∧ Q S1)) := MT.ofJ (by decide) (fun b => [(0, .ref (b + v0)), (1, .int v1), (2, .int v2)]) (fun b => rfl) (fun b => Nat.le_of_ble_eq_true rfl) (fun l b D cy p e s m below meth c C hE hn => j_X5_setGlass C hE t_v0 h)
theorem hd_X5_setGlass : yX5_setGlass.cls ≠ "java/lang/invoke/MethodHandle" ∧ yX5_setGlass.cls ≠ "java/lang/invoke/VarHandle" ∧ (parseMethodDescriptor yX5_setGlass.desc).map (fun d => d.parameters.length) = some 2 := by decide +kernel
def f_X3_lensesIn_17_n (G : Gm) (Q : Int32 → St → Prop) : Nat → Int32 → Int32 → St → Prop
  | 0, _, _, _ => False
  | n + 1, v1, v2, S => (if v2 ≤ 0 then Q v1 S else (∀ x2 : Int32, x2 = v2 - v2 / 10 * 10 → (if x2 < 1 then Q (-1) S else (if x2 ≤ 8 then (∀ x5 : Int32, x5 = v2 / 10 → (f_X3_lensesIn_17_n G Q n) (v1 + 1) x5 S) else Q (-1) S))))
def f_X3_lensesIn_17 (G : Gm) (Q : Int32 → St → Prop) (v1 : Int32) (v2 : Int32) (S : St) : Prop := ∃ n, f_X3_lensesIn_17_n G Q n v1 v2 S
def f_X3_lensesIn (G : Gm) (v0 : Int32) (Q : Int32 → St → Prop) (S : St) : Prop :=
  (if v0 < 0 then Q (-1) S else (if v0 ≤ 8888 then f_X3_lensesIn_17 G Q 0 v0 S else Q (-1) S))
abbrev rm_X3_lensesIn : Room := { frames := 0, cells := 0, slots := 0, locals := 0 }
set_option maxHeartbeats 4000000 in
set_option maxRecDepth 100000 in
theorem j_X3_lensesIn_17_n {p : Program} {l : Launch} {e : Env} {s : State} {m : MethodId} {args : Array Value} {below : List Frame} {meth : Method} {c : Code} {b : Nat} {D : va_G} {cy : Nat → ClassId} {G : Gm} {Q : Int32 → St → Prop} (C : CX p s m args meth c b D cy cX3_lensesIn RX3 4 (some .int)) (hE : s.heap.size + 0 ≤ b + G.2.2) : ∀ n (v1 : Int32) (v2 : Int32) S, f_X3_lensesIn_17_n G Q n v1 v2 S → J p l e rm_X3_lensesIn s m args below meth c b D cy 4 (zI b D cy below args s G Q) 0 0 G S 17 [(1, .int v1), (2, .int v2)] [] := by
  intro n
  induction n with
  | zero => intro v1 v2 S h; exact h.elim
  | succ n ih =>
    intro v1 v2 S h
    unfold f_X3_lensesIn_17_n at h
    refine jB C [(.iload_n 2, 1, 0)] 18 [(1, .int v1), (2, .int v2)] [.int v2] (by decide +kernel) rfl rfl ?_
    refine jIf_le C 21 50 (by decide +kernel : decode cX3_lensesIn 18 = .ok (.ifCond .le 32, 3)) rfl rfl (fun c1 => ?_) (fun c1 => ?_)
    · have h := it1 h c1
      refine jB C [(.iload_n 1, 1, 0)] 51 [(1, .int v1), (2, .int v2)] [.int v1] (by decide +kernel) rfl rfl ?_
      exact jRetI C (by decide +kernel : decode cX3_lensesIn 51 = .ok (.ireturn, 1)) (Nat.le_refl _) (Nat.le_refl _) ⟨rfl, h⟩
    · have h := it2 h c1
      refine jB C [(.iload_n 2, 1, 0), (.bipush 10, 2, 10)] 24 [(1, .int v1), (2, .int v2)] [.int 10, .int v2] (by decide +kernel) rfl rfl ?_
      refine jIrem C 25 (by decide +kernel : decode cX3_lensesIn 24 = .ok (.irem, 1)) rfl (by decide) ?_
      refine jTopI (fun x2 e_x2 => ?_)
      have h := h x2 e_x2
      refine jB C [(.istore_n 3, 1, 0), (.iload_n 3, 1, 0), (.iconst 1, 1, 1)] 28 [(3, .int x2), (1, .int v1), (2, .int v2)] [.int 1, .int x2] (by decide +kernel) rfl rfl ?_
      refine jIcmp_lt C 31 37 (by decide +kernel : decode cX3_lensesIn 28 = .ok (.if_icmp .lt 9, 3)) rfl rfl (fun c3 => ?_) (fun c3 => ?_)
      · have h := it1 h c3
        refine jB C [(.iconst (-1), 1, (-1))] 38 [(3, .int x2), (1, .int v1), (2, .int v2)] [.int (-1)] (by decide +kernel) rfl rfl ?_
        exact jRetI C (by decide +kernel : decode cX3_lensesIn 38 = .ok (.ireturn, 1)) (Nat.le_refl _) (Nat.le_refl _) ⟨rfl, h⟩
      · have h := it2 h c3
        refine jB C [(.iload_n 3, 1, 0), (.bipush 8, 2, 8)] 34 [(3, .int x2), (1, .int v1), (2, .int v2)] [.int 8, .int x2] (by decide +kernel) rfl rfl ?_
        refine jIcmp_le C 37 39 (by decide +kernel : decode cX3_lensesIn 34 = .ok (.if_icmp .le 5, 3)) rfl rfl (fun c4 => ?_) (fun c4 => ?_)
        · have h := it1 h c4
          refine jB C [(.iinc 1 1, 3, 1), (.iload_n 2, 1, 0), (.bipush 10, 2, 10)] 45 [(1, .int (v1 + 1)), (3, .int x2), (2, .int v2)] [.int 10, .int v2] (by decide +kernel) rfl rfl ?_
          refine jIdiv C 46 (by decide +kernel : decode cX3_lensesIn 45 = .ok (.idiv, 1)) rfl (by decide) ?_
          refine jTopI (fun x5 e_x5 => ?_)
          have h := h x5 e_x5
          refine jB C [(.istore_n 2, 1, 0)] 47 [(2, .int x5), (1, .int (v1 + 1)), (3, .int x2)] [] (by decide +kernel) rfl rfl ?_
          refine jGoto C 17 (by decide +kernel : decode cX3_lensesIn 47 = .ok (.goto (-30), 3)) rfl ?_
          refine jSub [1, 0] rfl ?_
          exact ih (v1 + 1) x5 S h
        · have h := it2 h c4
          refine jB C [(.iconst (-1), 1, (-1))] 38 [(3, .int x2), (1, .int v1), (2, .int v2)] [.int (-1)] (by decide +kernel) rfl rfl ?_
          exact jRetI C (by decide +kernel : decode cX3_lensesIn 38 = .ok (.ireturn, 1)) (Nat.le_refl _) (Nat.le_refl _) ⟨rfl, h⟩
theorem j_X3_lensesIn_17 {p : Program} {l : Launch} {e : Env} {s : State} {m : MethodId} {args : Array Value} {below : List Frame} {meth : Method} {c : Code} {b : Nat} {D : va_G} {cy : Nat → ClassId} {G : Gm} {v1 : Int32} {v2 : Int32} {S : St} {Q : Int32 → St → Prop} (C : CX p s m args meth c b D cy cX3_lensesIn RX3 4 (some .int)) (hE : s.heap.size + 0 ≤ b + G.2.2) (h : f_X3_lensesIn_17 G Q v1 v2 S) : J p l e rm_X3_lensesIn s m args below meth c b D cy 4 (zI b D cy below args s G Q) 0 0 G S 17 [(1, .int v1), (2, .int v2)] [] := by
  obtain ⟨n, h⟩ := h
  exact j_X3_lensesIn_17_n C hE n v1 v2 S h
set_option maxHeartbeats 4000000 in
set_option maxRecDepth 100000 in
theorem j_X3_lensesIn {p : Program} {l : Launch} {e : Env} {s : State} {m : MethodId} {args : Array Value} {below : List Frame} {meth : Method} {c : Code} {b : Nat} {D : va_G} {cy : Nat → ClassId} {G : Gm} {v0 : Int32} {S : St} {Q : Int32 → St → Prop} (C : CX p s m args meth c b D cy cX3_lensesIn RX3 4 (some .int)) (hE : s.heap.size + 0 ≤ b + G.2.2) (h : f_X3_lensesIn G v0 Q S) : J p l e rm_X3_lensesIn s m args below meth c b D cy 4 (zI b D cy below args s G Q) 0 0 G S 0 [(0, .int v0)] [] := by
  unfold f_X3_lensesIn at h
  refine jB C [(.iload_n 0, 1, 0)] 1 [(0, .int v0)] [.int v0] (by decide +kernel) rfl rfl ?_
  refine jIf_lt C 4 11 (by decide +kernel : decode cX3_lensesIn 1 = .ok (.ifCond .lt 10, 3)) rfl rfl (fun c1 => ?_) (fun c1 => ?_)
  · have h := it1 h c1
    refine jB C [(.iconst (-1), 1, (-1))] 12 [(0, .int v0)] [.int (-1)] (by decide +kernel) rfl rfl ?_
    exact jRetI C (by decide +kernel : decode cX3_lensesIn 12 = .ok (.ireturn, 1)) (Nat.le_refl _) (Nat.le_refl _) ⟨rfl, h⟩
  · have h := it2 h c1
    refine jB C [(.iload_n 0, 1, 0), (.sipush 8888, 3, 8888)] 8 [(0, .int v0)] [.int 8888, .int v0] (by decide +kernel) rfl rfl ?_
    refine jIcmp_le C 11 13 (by decide +kernel : decode cX3_lensesIn 8 = .ok (.if_icmp .le 5, 3)) rfl rfl (fun c2 => ?_) (fun c2 => ?_)
    · have h := it1 h c2
      refine jB C [(.iconst 0, 1, 0), (.istore_n 1, 1, 0), (.iload_n 0, 1, 0), (.istore_n 2, 1, 0)] 17 [(2, .int v0), (1, .int 0), (0, .int v0)] [] (by decide +kernel) rfl rfl ?_
      refine jSub [1, 0] rfl ?_
      exact j_X3_lensesIn_17 C hE h
    · have h := it2 h c2
      refine jB C [(.iconst (-1), 1, (-1))] 12 [(0, .int v0)] [.int (-1)] (by decide +kernel) rfl rfl ?_
      exact jRetI C (by decide +kernel : decode cX3_lensesIn 12 = .ok (.ireturn, 1)) (Nat.le_refl _) (Nat.le_refl _) ⟨rfl, h⟩
theorem ok_X3_lensesIn {G : Gm} {v0 : Int32} {S : St} {Q : Int32 → St → Prop} (h : f_X3_lensesIn G v0 Q S) : MT yX3_lensesIn cX3_lensesIn 4 (some .int) rm_X3_lensesIn 0 0 (fun b => [.int v0]) G S (QI (fun r G1 S1 => G1 = G ∧ Q r S1)) := MT.ofJ (by decide) (fun b => [(0, .int v0)]) (fun b => rfl) (fun b => Nat.le_of_ble_eq_true rfl) (fun l b D cy p e s m below meth c C hE hn => j_X3_lensesIn C hE h)
theorem hd_X3_lensesIn : yX3_lensesIn.cls ≠ "java/lang/invoke/MethodHandle" ∧ yX3_lensesIn.cls ≠ "java/lang/invoke/VarHandle" ∧ (parseMethodDescriptor yX3_lensesIn.desc).map (fun d => d.parameters.length) = some 1 := by decide +kernel
def f_X1_exchange (G : Gm) (v0 : Nat) (v1 : Int32) (v2 : Int32) (Q : Int32 → St → Prop) (S : St) : Prop :=
  f_X5_glassOf G v0 v1 (fun r2 S1 => f_X5_glassOf G v0 v2 (fun r4 S3 => f_X5_setGlass G v0 v1 r4 (fun S5 => f_X5_setGlass G v0 v2 r2 (fun S6 => f_X3_lensesIn G r2 (fun r8 S7 => f_X5_glassOf G v0 v1 (fun r10 S9 => f_X3_lensesIn G r10 (fun r12 S11 => Q (r8 + r12) S11) S9) S7) S6) S5) S3) S1) S
abbrev rm_X1_exchange : Room := { frames := 2, cells := 0, slots := 0, locals := 43 }
set_option maxHeartbeats 4000000 in
set_option maxRecDepth 100000 in
theorem j_X1_exchange {p : Program} {l : Launch} {e : Env} {s : State} {m : MethodId} {args : Array Value} {below : List Frame} {meth : Method} {c : Code} {b : Nat} {D : va_G} {cy : Nat → ClassId} {G : Gm} {v0 : Nat} {v1 : Int32} {v2 : Int32} {S : St} {Q : Int32 → St → Prop} (C : CX p s m args meth c b D cy cX1_exchange RX1 4 (some .int)) (hE : s.heap.size + 0 ≤ b + G.2.2) (t_v0 : ok G 4 v0) (h : f_X1_exchange G v0 v1 v2 Q S) : J p l e rm_X1_exchange s m args below meth c b D cy 4 (zI b D cy below args s G Q) 0 0 G S 0 [(0, .ref (b + v0)), (1, .int v1), (2, .int v2)] [] := by
  unfold f_X1_exchange at h
  refine jB C [(.aload_n 0, 1, 0), (.iload_n 1, 1, 0)] 2 [(0, .ref (b + v0)), (1, .int v1), (2, .int v2)] [.int v1, .ref (b + v0)] (by decide +kernel) rfl rfl ?_
  refine jcVN_I C 5 (rest := []) (ok_X5_glassOf t_v0 h) (by decide +kernel : decode cX1_exchange 2 = .ok (.invokevirtual 54, 3)) rfl wn_830 wd_402 wp_9 wd_2 wd_403 ⟨rfl, rfl⟩ hd_X5_glassOf ⟨Nat.le_of_ble_eq_true rfl, Nat.le_of_ble_eq_true rfl⟩ t_v0 kX5 (by decide) rfl rfl rfl (Nat.le_of_ble_eq_true rfl) ⟨Nat.zero_le _, Nat.zero_le _⟩ (fun r2 S1 h => ?_)
  refine jB C [(.istore_n 3, 1, 0), (.aload_n 0, 1, 0), (.iload_n 1, 1, 0), (.aload_n 0, 1, 0), (.iload_n 2, 1, 0)] 10 [(3, .int r2), (0, .ref (b + v0)), (1, .int v1), (2, .int v2)] [.int v2, .ref (b + v0), .int v1, .ref (b + v0)] (by decide +kernel) rfl rfl ?_
  refine jcVN_I C 13 (rest := [.int v1, .ref (b + v0)]) (ok_X5_glassOf t_v0 h) (by decide +kernel : decode cX1_exchange 10 = .ok (.invokevirtual 54, 3)) rfl wn_830 wd_402 wp_9 wd_2 wd_403 ⟨rfl, rfl⟩ hd_X5_glassOf ⟨Nat.le_of_ble_eq_true rfl, Nat.le_of_ble_eq_true rfl⟩ t_v0 kX5 (by decide) rfl rfl rfl (Nat.le_of_ble_eq_true rfl) ⟨Nat.zero_le _, Nat.zero_le _⟩ (fun r4 S3 h => ?_)
  refine jcVN_V C 16 (rest := []) (ok_X5_setGlass t_v0 h) (by decide +kernel : decode cX1_exchange 13 = .ok (.invokevirtual 50, 3)) rfl wn_848 wd_381 wp_5 wd_2 wd_382 ⟨rfl, rfl⟩ hd_X5_setGlass ⟨Nat.le_of_ble_eq_true rfl, Nat.le_of_ble_eq_true rfl⟩ t_v0 kX5 (by decide) rfl rfl rfl (Nat.le_of_ble_eq_true rfl) ⟨Nat.zero_le _, Nat.zero_le _⟩ (fun S5 h => ?_)
  refine jB C [(.aload_n 0, 1, 0), (.iload_n 2, 1, 0), (.iload_n 3, 1, 0)] 19 [(3, .int r2), (0, .ref (b + v0)), (1, .int v1), (2, .int v2)] [.int r2, .int v2, .ref (b + v0)] (by decide +kernel) rfl rfl ?_
  refine jcVN_V C 22 (rest := []) (ok_X5_setGlass t_v0 h) (by decide +kernel : decode cX1_exchange 19 = .ok (.invokevirtual 50, 3)) rfl wn_848 wd_381 wp_5 wd_2 wd_382 ⟨rfl, rfl⟩ hd_X5_setGlass ⟨Nat.le_of_ble_eq_true rfl, Nat.le_of_ble_eq_true rfl⟩ t_v0 kX5 (by decide) rfl rfl rfl (Nat.le_of_ble_eq_true rfl) ⟨Nat.zero_le _, Nat.zero_le _⟩ (fun S6 h => ?_)
  refine jB C [(.iload_n 3, 1, 0)] 23 [(3, .int r2), (0, .ref (b + v0)), (1, .int v1), (2, .int v2)] [.int r2] (by decide +kernel) rfl rfl ?_
  refine jcSN_I C 26 (rest := []) (ok_X3_lensesIn h) (by decide +kernel : decode cX1_exchange 23 = .ok (.invokestatic 58, 3)) rfl wn_849 wd_408 wd_13 wd_409 ⟨rfl, rfl⟩ hd_X3_lensesIn ⟨Nat.le_of_ble_eq_true rfl, Nat.le_of_ble_eq_true rfl⟩ rfl rfl (Nat.le_of_ble_eq_true rfl) ⟨Nat.zero_le _, Nat.zero_le _⟩ (fun r8 S7 h => ?_)
  refine jB C [(.aload_n 0, 1, 0), (.iload_n 1, 1, 0)] 28 [(3, .int r2), (0, .ref (b + v0)), (1, .int v1), (2, .int v2)] [.int v1, .ref (b + v0), .int r8] (by decide +kernel) rfl rfl ?_
  refine jcVN_I C 31 (rest := [.int r8]) (ok_X5_glassOf t_v0 h) (by decide +kernel : decode cX1_exchange 28 = .ok (.invokevirtual 54, 3)) rfl wn_830 wd_402 wp_9 wd_2 wd_403 ⟨rfl, rfl⟩ hd_X5_glassOf ⟨Nat.le_of_ble_eq_true rfl, Nat.le_of_ble_eq_true rfl⟩ t_v0 kX5 (by decide) rfl rfl rfl (Nat.le_of_ble_eq_true rfl) ⟨Nat.zero_le _, Nat.zero_le _⟩ (fun r10 S9 h => ?_)
  refine jcSN_I C 34 (rest := [.int r8]) (ok_X3_lensesIn h) (by decide +kernel : decode cX1_exchange 31 = .ok (.invokestatic 58, 3)) rfl wn_849 wd_408 wd_13 wd_409 ⟨rfl, rfl⟩ hd_X3_lensesIn ⟨Nat.le_of_ble_eq_true rfl, Nat.le_of_ble_eq_true rfl⟩ rfl rfl (Nat.le_of_ble_eq_true rfl) ⟨Nat.zero_le _, Nat.zero_le _⟩ (fun r12 S11 h => ?_)
  refine jB C [(.iadd, 1, 0)] 35 [(3, .int r2), (0, .ref (b + v0)), (1, .int v1), (2, .int v2)] [.int (r8 + r12)] (by decide +kernel) rfl rfl ?_
  exact jRetI C (by decide +kernel : decode cX1_exchange 35 = .ok (.ireturn, 1)) (Nat.le_refl _) (Nat.le_refl _) ⟨rfl, h⟩
theorem ok_X1_exchange {G : Gm} {v0 : Nat} {v1 : Int32} {v2 : Int32} {S : St} {Q : Int32 → St → Prop} (t_v0 : ok G 4 v0) (h : f_X1_exchange G v0 v1 v2 Q S) : MT yX1_exchange cX1_exchange 4 (some .int) rm_X1_exchange 0 0 (fun b => [.ref (b + v0), .int v1, .int v2]) G S (QI (fun r G1 S1 => G1 = G ∧ Q r S1)) := MT.ofJ (by decide) (fun b => [(0, .ref (b + v0)), (1, .int v1), (2, .int v2)]) (fun b => rfl) (fun b => Nat.le_of_ble_eq_true rfl) (fun l b D cy p e s m below meth c C hE hn => j_X1_exchange C hE t_v0 h)
theorem hd_X1_exchange : yX1_exchange.cls ≠ "java/lang/invoke/MethodHandle" ∧ yX1_exchange.cls ≠ "java/lang/invoke/VarHandle" ∧ (parseMethodDescriptor yX1_exchange.desc).map (fun d => d.parameters.length) = some 3 := by decide +kernel
