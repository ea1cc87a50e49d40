def f_X11_exchange_2_n (G : Gm) (v0 : Nat) (v1 : Int32) (v2 : Int32) (Q : St → Prop) : Nat → Int32 → St → Prop
  | 0, _, _ => False
  | n + 1, v3, S => (if 5 ≤ v3 then Q S else (∃ a2, S.2.2 v0 4 = some a2 ∧ (vp_in ((32 + (5 * v1)) + v3) (G.2.1 a2) ∧ (∀ x4 : Int32, x4 = S.1 a2 ((32 + (5 * v1)) + v3).toNatClampNeg → (∃ a5, S.2.2 v0 4 = some a5 ∧ (∃ a6, S.2.2 v0 4 = some a6 ∧ (vp_in ((32 + (5 * v2)) + v3) (G.2.1 a6) ∧ (vp_in ((32 + (5 * v1)) + v3) (G.2.1 a5) ∧ ∀ S9, S9 = uI S a5 ((32 + (5 * v1)) + v3).toNatClampNeg (S.1 a6 ((32 + (5 * v2)) + v3).toNatClampNeg) → (∃ a10, S9.2.2 v0 4 = some a10 ∧ (vp_in ((32 + (5 * v2)) + v3) (G.2.1 a10) ∧ ∀ S12, S12 = uI S9 a10 ((32 + (5 * v2)) + v3).toNatClampNeg x4 → (f_X11_exchange_2_n G v0 v1 v2 Q n) (v3 + 1) S12))))))))))
def f_X11_exchange_2 (G : Gm) (v0 : Nat) (v1 : Int32) (v2 : Int32) (Q : St → Prop) (v3 : Int32) (S : St) : Prop := ∃ n, f_X11_exchange_2_n G v0 v1 v2 Q n v3 S
def f_X11_exchange (G : Gm) (v0 : Nat) (v1 : Int32) (v2 : Int32) (Q : St → Prop) (S : St) : Prop :=
  f_X11_exchange_2 G v0 v1 v2 Q 0 S
abbrev rm_X11_exchange : Room := { frames := 0, cells := 0, slots := 0, locals := 0 }
set_option maxHeartbeats 4000000 in
set_option maxRecDepth 100000 in
theorem j_X11_exchange_2_n {p : Program} {l : Launch} {e : Env} {s : State} {m : MethodId} {args : Array Value} {below : List Frame} {meth : Method} {c : Code} {b : Nat} {D : va_G} {cy : Nat → ClassId} {G : Gm} {v0 : Nat} {v1 : Int32} {v2 : Int32} {Q : St → Prop} (C : CX p s m args meth c b D cy cX11_exchange RX11 5 none) (hE : s.heap.size + 0 ≤ b + G.2.2) (t_v0 : ok G 10 v0) : ∀ n (v3 : Int32) S, f_X11_exchange_2_n G v0 v1 v2 Q n v3 S → J p l e rm_X11_exchange s m args below meth c b D cy 5 (zV b D cy below args s G Q) 0 0 G S 2 [(0, .ref (b + v0)), (1, .int v1), (2, .int v2), (3, .int v3)] [] := by
  intro n
  induction n with
  | zero => intro v3 S h; exact h.elim
  | succ n ih =>
    intro v3 S h
    unfold f_X11_exchange_2_n at h
    refine jB C [(.iload_n 3, 1, 0), (.iconst 5, 1, 5)] 4 [(0, .ref (b + v0)), (1, .int v1), (2, .int v2), (3, .int v3)] [.int 5, .int v3] (by decide +kernel) rfl rfl ?_
    refine jIcmp_ge C 7 69 (by decide +kernel : decode cX11_exchange 4 = .ok (.if_icmp .ge 65, 3)) rfl rfl (fun c1 => ?_) (fun c1 => ?_)
    · have h := it1 h c1
      exact jRetV C (by decide +kernel : decode cX11_exchange 69 = .ok (.return_, 1)) (Nat.le_refl _) (Nat.le_refl _) ⟨rfl, h⟩
    · have h := it2 h c1
      refine jB C [(.aload_n 0, 1, 0)] 8 [(0, .ref (b + v0)), (1, .int v1), (2, .int v2), (3, .int v3)] [.ref (b + v0)] (by decide +kernel) rfl rfl ?_
      obtain ⟨a2, e_a2, h⟩ := h
      refine jGetR C 11 (by decide +kernel : decode cX11_exchange 8 = .ok (.getfield 16, 3)) rfl t_v0 kX11 4 (by decide) rfl rfl (by decide) wd_1158 e_a2 rfl (fun t_a2 => ?_)
      refine jB C [(.bipush 32, 2, 32), (.iconst 5, 1, 5), (.iload_n 1, 1, 0), (.imul, 1, 0), (.iadd, 1, 0), (.iload_n 3, 1, 0), (.iadd, 1, 0)] 19 [(0, .ref (b + v0)), (1, .int v1), (2, .int v2), (3, .int v3)] [.int ((32 + (5 * v1)) + v3), .ref (b + a2)] (by decide +kernel) rfl rfl ?_
      obtain ⟨y3, h⟩ := h
      refine jIald C 20 (by decide +kernel : decode cX11_exchange 19 = .ok (.iaload, 1)) rfl t_a2 y3 ?_
      refine jTopI (fun x4 e_x4 => ?_)
      have h := h x4 e_x4
      refine jB C [(.istore 4, 2, 0), (.aload_n 0, 1, 0)] 23 [(4, .int x4), (0, .ref (b + v0)), (1, .int v1), (2, .int v2), (3, .int v3)] [.ref (b + v0)] (by decide +kernel) rfl rfl ?_
      obtain ⟨a5, e_a5, h⟩ := h
      refine jGetR C 26 (by decide +kernel : decode cX11_exchange 23 = .ok (.getfield 16, 3)) rfl t_v0 kX11 4 (by decide) rfl rfl (by decide) wd_1158 e_a5 rfl (fun t_a5 => ?_)
      refine jB C [(.bipush 32, 2, 32), (.iconst 5, 1, 5), (.iload_n 1, 1, 0), (.imul, 1, 0), (.iadd, 1, 0), (.iload_n 3, 1, 0), (.iadd, 1, 0), (.aload_n 0, 1, 0)] 35 [(4, .int x4), (0, .ref (b + v0)), (1, .int v1), (2, .int v2), (3, .int v3)] [.ref (b + v0), .int ((32 + (5 * v1)) + v3), .ref (b + a5)] (by decide +kernel) rfl rfl ?_
      obtain ⟨a6, e_a6, h⟩ := h
      refine jGetR C 38 (by decide +kernel : decode cX11_exchange 35 = .ok (.getfield 16, 3)) rfl t_v0 kX11 4 (by decide) rfl rfl (by decide) wd_1158 e_a6 rfl (fun t_a6 => ?_)
      refine jB C [(.bipush 32, 2, 32), (.iconst 5, 1, 5), (.iload_n 2, 1, 0), (.imul, 1, 0), (.iadd, 1, 0), (.iload_n 3, 1, 0), (.iadd, 1, 0)] 46 [(4, .int x4), (0, .ref (b + v0)), (1, .int v1), (2, .int v2), (3, .int v3)] [.int ((32 + (5 * v2)) + v3), .ref (b + a6), .int ((32 + (5 * v1)) + v3), .ref (b + a5)] (by decide +kernel) rfl rfl ?_
      obtain ⟨y7, h⟩ := h
      refine jIald C 47 (by decide +kernel : decode cX11_exchange 46 = .ok (.iaload, 1)) rfl t_a6 y7 ?_
      obtain ⟨y8, h⟩ := h
      refine jIast C 48 (by decide +kernel : decode cX11_exchange 47 = .ok (.iastore, 1)) rfl hE t_a5 y8 ?_
      refine jTopS (fun S9 e_S9 => ?_)
      have h := h S9 e_S9
      refine jB C [(.aload_n 0, 1, 0)] 49 [(4, .int x4), (0, .ref (b + v0)), (1, .int v1), (2, .int v2), (3, .int v3)] [.ref (b + v0)] (by decide +kernel) rfl rfl ?_
      obtain ⟨a10, e_a10, h⟩ := h
      refine jGetR C 52 (by decide +kernel : decode cX11_exchange 49 = .ok (.getfield 16, 3)) rfl t_v0 kX11 4 (by decide) rfl rfl (by decide) wd_1158 e_a10 rfl (fun t_a10 => ?_)
      refine jB C [(.bipush 32, 2, 32), (.iconst 5, 1, 5), (.iload_n 2, 1, 0), (.imul, 1, 0), (.iadd, 1, 0), (.iload_n 3, 1, 0), (.iadd, 1, 0), (.iload 4, 2, 0)] 62 [(4, .int x4), (0, .ref (b + v0)), (1, .int v1), (2, .int v2), (3, .int v3)] [.int x4, .int ((32 + (5 * v2)) + v3), .ref (b + a10)] (by decide +kernel) rfl rfl ?_
      obtain ⟨y11, h⟩ := h
      refine jIast C 63 (by decide +kernel : decode cX11_exchange 62 = .ok (.iastore, 1)) rfl hE t_a10 y11 ?_
      refine jTopS (fun S12 e_S12 => ?_)
      have h := h S12 e_S12
      refine jB C [(.iinc 3 1, 3, 1)] 66 [(3, .int (v3 + 1)), (4, .int x4), (0, .ref (b + v0)), (1, .int v1), (2, .int v2)] [] (by decide +kernel) rfl rfl ?_
      refine jGoto C 2 (by decide +kernel : decode cX11_exchange 66 = .ok (.goto (-64), 3)) rfl ?_
      refine jSub [2, 3, 4, 0] rfl ?_
      exact ih (v3 + 1) S12 h
theorem j_X11_exchange_2 {p : Program} {l : Launch} {e : Env} {s : State} {m : MethodId} {args : Array Value} {below : List Frame} {meth : Method} {c : Code} {b : Nat} {D : va_G} {cy : Nat → ClassId} {G : Gm} {v0 : Nat} {v1 : Int32} {v2 : Int32} {v3 : Int32} {S : St} {Q : St → Prop} (C : CX p s m args meth c b D cy cX11_exchange RX11 5 none) (hE : s.heap.size + 0 ≤ b + G.2.2) (t_v0 : ok G 10 v0) (h : f_X11_exchange_2 G v0 v1 v2 Q v3 S) : J p l e rm_X11_exchange s m args below meth c b D cy 5 (zV b D cy below args s G Q) 0 0 G S 2 [(0, .ref (b + v0)), (1, .int v1), (2, .int v2), (3, .int v3)] [] := by
  obtain ⟨n, h⟩ := h
  exact j_X11_exchange_2_n C hE t_v0 n v3 S h
set_option maxHeartbeats 4000000 in
set_option maxRecDepth 100000 in
theorem j_X11_exchange {p : Program} {l : Launch} {e : Env} {s : State} {m : MethodId} {args : Array Value} {below : List Frame} {meth : Method} {c : Code} {b : Nat} {D : va_G} {cy : Nat → ClassId} {G : Gm} {v0 : Nat} {v1 : Int32} {v2 : Int32} {S : St} {Q : St → Prop} (C : CX p s m args meth c b D cy cX11_exchange RX11 5 none) (hE : s.heap.size + 0 ≤ b + G.2.2) (t_v0 : ok G 10 v0) (h : f_X11_exchange G v0 v1 v2 Q S) : J p l e rm_X11_exchange s m args below meth c b D cy 5 (zV b D cy below args s G Q) 0 0 G S 0 [(0, .ref (b + v0)), (1, .int v1), (2, .int v2)] [] := by
  unfold f_X11_exchange at h
  refine jB C [(.iconst 0, 1, 0), (.istore_n 3, 1, 0)] 2 [(3, .int 0), (0, .ref (b + v0)), (1, .int v1), (2, .int v2)] [] (by decide +kernel) rfl rfl ?_
  refine jSub [1, 2, 3, 0] rfl ?_
  exact j_X11_exchange_2 C hE t_v0 h
theorem ok_X11_exchange {G : Gm} {v0 : Nat} {v1 : Int32} {v2 : Int32} {S : St} {Q : St → Prop} (t_v0 : ok G 10 v0) (h : f_X11_exchange G v0 v1 v2 Q S) : MT yX11_exchange cX11_exchange 5 none rm_X11_exchange 0 0 (fun b => [.ref (b + v0), .int v1, .int v2]) G S (QV (fun G1 S1 => G1 = G ∧ Q S1)) := MT.ofJ (by decide) (fun b => [(0, .ref (b + v0)), (1, .int v1), (2, .int v2)]) (fun b => rfl) (fun b => Nat.le_of_ble_eq_true rfl) (fun l b D cy p e s m below meth c C hE hn => j_X11_exchange C hE t_v0 h)
theorem hd_X11_exchange : yX11_exchange.cls ≠ "java/lang/invoke/MethodHandle" ∧ yX11_exchange.cls ≠ "java/lang/invoke/VarHandle" ∧ (parseMethodDescriptor yX11_exchange.desc).map (fun d => d.parameters.length) = some 2 := by decide +kernel
def f_X11_lensesOf (G : Gm) (v0 : Nat) (v1 : Int32) (Q : Int32 → St → Prop) (S : St) : Prop :=
  (∃ a1, S.2.2 v0 4 = some a1 ∧ (vp_in (32 + (5 * v1)) (G.2.1 a1) ∧ Q (S.1 a1 (32 + (5 * v1)).toNatClampNeg) S))
abbrev rm_X11_lensesOf : Room := { frames := 0, cells := 0, slots := 0, locals := 0 }
set_option maxHeartbeats 4000000 in
set_option maxRecDepth 100000 in
theorem j_X11_lensesOf {p : Program} {l : Launch} {e : Env} {s : State} {m : MethodId} {args : Array Value} {below : List Frame} {meth : Method} {c : Code} {b : Nat} {D : va_G} {cy : Nat → ClassId} {G : Gm} {v0 : Nat} {v1 : Int32} {S : St} {Q : Int32 → St → Prop} (C : CX p s m args meth c b D cy cX11_lensesOf RX11 2 (some .int)) (hE : s.heap.size + 0 ≤ b + G.2.2) (t_v0 : ok G 10 v0) (h : f_X11_lensesOf G v0 v1 Q S) : J p l e rm_X11_lensesOf s m args below meth c b D cy 2 (zI b D cy below args s G Q) 0 0 G S 0 [(0, .ref (b + v0)), (1, .int v1)] [] := by
  unfold f_X11_lensesOf at h
  refine jB C [(.aload_n 0, 1, 0)] 1 [(0, .ref (b + v0)), (1, .int v1)] [.ref (b + v0)] (by decide +kernel) rfl rfl ?_
  obtain ⟨a1, e_a1, h⟩ := h
  refine jGetR C 4 (by decide +kernel : decode cX11_lensesOf 1 = .ok (.getfield 16, 3)) rfl t_v0 kX11 4 (by decide) rfl rfl (by decide) wd_1158 e_a1 rfl (fun t_a1 => ?_)
  refine jB C [(.bipush 32, 2, 32), (.iconst 5, 1, 5), (.iload_n 1, 1, 0), (.imul, 1, 0), (.iadd, 1, 0)] 10 [(0, .ref (b + v0)), (1, .int v1)] [.int (32 + (5 * v1)), .ref (b + a1)] (by decide +kernel) rfl rfl ?_
  obtain ⟨y2, h⟩ := h
  refine jIald C 11 (by decide +kernel : decode cX11_lensesOf 10 = .ok (.iaload, 1)) rfl t_a1 y2 ?_
  exact jRetI C (by decide +kernel : decode cX11_lensesOf 11 = .ok (.ireturn, 1)) (Nat.le_refl _) (Nat.le_refl _) ⟨rfl, h⟩
theorem ok_X11_lensesOf {G : Gm} {v0 : Nat} {v1 : Int32} {S : St} {Q : Int32 → St → Prop} (t_v0 : ok G 10 v0) (h : f_X11_lensesOf G v0 v1 Q S) : MT yX11_lensesOf cX11_lensesOf 2 (some .int) rm_X11_lensesOf 0 0 (fun b => [.ref (b + v0), .int v1]) G S (QI (fun r G1 S1 => G1 = G ∧ Q r S1)) := MT.ofJ (by decide) (fun b => [(0, .ref (b + v0)), (1, .int v1)]) (fun b => rfl) (fun b => Nat.le_of_ble_eq_true rfl) (fun l b D cy p e s m below meth c C hE hn => j_X11_lensesOf C hE t_v0 h)
theorem hd_X11_lensesOf : yX11_lensesOf.cls ≠ "java/lang/invoke/MethodHandle" ∧ yX11_lensesOf.cls ≠ "java/lang/invoke/VarHandle" ∧ (parseMethodDescriptor yX11_lensesOf.desc).map (fun d => d.parameters.length) = some 1 := by decide +kernel
def f_X11_swapNow (G : Gm) (v0 : Nat) (v1 : Int32) (v2 : Int32) (Q : Int32 → St → Prop) (S : St) : Prop :=
  (if v1 = v2 then Q (-1) S else f_X11_isPerson G v0 v1 (fun r3 S2 => (if r3 = 0 then Q (-2) S2 else f_X11_isPerson G v0 v2 (fun r6 S5 => (if r6 = 0 then Q (-2) S5 else f_X11_remember G v0 2 (fun S8 => f_X11_exchange G v0 v1 v2 (fun S9 => f_X11_lensesOf G v0 v1 (fun r11 S10 => f_X11_lensesOf G v0 v2 (fun r13 S12 => Q (r11 + r13) S12) S10) S9) S8) S5)) S2)) S)
abbrev rm_X11_swapNow : Room := { frames := 2, cells := 0, slots := 0, locals := 46 }
set_option maxHeartbeats 4000000 in
set_option maxRecDepth 100000 in
theorem j_X11_swapNow {p : Program} {l : Launch} {e : Env} {s : State} {m : MethodId} {args : Array Value} {below : List Frame} {meth : Method} {c : Code} {b : Nat} {D : va_G} {cy : Nat → ClassId} {G : Gm} {v0 : Nat} {v1 : Int32} {v2 : Int32} {S : St} {Q : Int32 → St → Prop} (C : CX p s m args meth c b D cy cX11_swapNow RX11 3 (some .int)) (hE : s.heap.size + 0 ≤ b + G.2.2) (t_v0 : ok G 10 v0) (h : f_X11_swapNow G v0 v1 v2 Q S) : J p l e rm_X11_swapNow s m args below meth c b D cy 3 (zI b D cy below args s G Q) 0 0 G S 0 [(0, .ref (b + v0)), (1, .int v1), (2, .int v2)] [] := by
  unfold f_X11_swapNow at h
  refine jB C [(.iload_n 1, 1, 0), (.iload_n 2, 1, 0)] 2 [(0, .ref (b + v0)), (1, .int v1), (2, .int v2)] [.int v2, .int v1] (by decide +kernel) rfl rfl ?_
  refine jIcmp_ne C 5 7 (by decide +kernel : decode cX11_swapNow 2 = .ok (.if_icmp .ne 5, 3)) rfl rfl (fun c1 => ?_) (fun c1 => ?_)
  · have h := it2 h c1
    refine jB C [(.aload_n 0, 1, 0), (.iload_n 1, 1, 0)] 9 [(0, .ref (b + v0)), (1, .int v1), (2, .int v2)] [.int v1, .ref (b + v0)] (by decide +kernel) rfl rfl ?_
    refine jcV_I C 12 (rest := []) (ok_X11_isPerson t_v0 h) (by decide +kernel : decode cX11_swapNow 9 = .ok (.invokevirtual 209, 3)) rfl wd_1376 wd_1378 wp_103 wd_12 wd_1379 ⟨rfl, rfl⟩ hd_X11_isPerson ⟨Nat.le_of_ble_eq_true rfl, Nat.le_of_ble_eq_true rfl⟩ t_v0 kX11 (by decide) rfl rfl rfl (Nat.le_of_ble_eq_true rfl) ⟨Nat.zero_le _, Nat.zero_le _⟩ (fun r3 S2 h => ?_)
    refine jIf_eq C 15 23 (by decide +kernel : decode cX11_swapNow 12 = .ok (.ifCond .eq 11, 3)) rfl rfl (fun c4 => ?_) (fun c4 => ?_)
    · have h := it1 h c4
      refine jB C [(.bipush (-2), 2, (-2))] 25 [(0, .ref (b + v0)), (1, .int v1), (2, .int v2)] [.int (-2)] (by decide +kernel) rfl rfl ?_
      exact jRetI C (by decide +kernel : decode cX11_swapNow 25 = .ok (.ireturn, 1)) (Nat.le_refl _) (Nat.le_refl _) ⟨rfl, h⟩
    · have h := it2 h c4
      refine jB C [(.aload_n 0, 1, 0), (.iload_n 2, 1, 0)] 17 [(0, .ref (b + v0)), (1, .int v1), (2, .int v2)] [.int v2, .ref (b + v0)] (by decide +kernel) rfl rfl ?_
      refine jcV_I C 20 (rest := []) (ok_X11_isPerson t_v0 h) (by decide +kernel : decode cX11_swapNow 17 = .ok (.invokevirtual 209, 3)) rfl wd_1376 wd_1378 wp_103 wd_12 wd_1379 ⟨rfl, rfl⟩ hd_X11_isPerson ⟨Nat.le_of_ble_eq_true rfl, Nat.le_of_ble_eq_true rfl⟩ t_v0 kX11 (by decide) rfl rfl rfl (Nat.le_of_ble_eq_true rfl) ⟨Nat.zero_le _, Nat.zero_le _⟩ (fun r6 S5 h => ?_)
      refine jIf_ne C 23 26 (by decide +kernel : decode cX11_swapNow 20 = .ok (.ifCond .ne 6, 3)) rfl rfl (fun c7 => ?_) (fun c7 => ?_)
      · have h := it2 h c7
        refine jB C [(.aload_n 0, 1, 0), (.iconst 2, 1, 2)] 28 [(0, .ref (b + v0)), (1, .int v1), (2, .int v2)] [.int 2, .ref (b + v0)] (by decide +kernel) rfl rfl ?_
        refine jcV_V C 31 (rest := []) (ok_X11_remember t_v0 h) (by decide +kernel : decode cX11_swapNow 28 = .ok (.invokevirtual 464, 3)) rfl wd_1647 wd_1649 wp_144 wd_12 wd_1650 ⟨rfl, rfl⟩ hd_X11_remember ⟨Nat.le_of_ble_eq_true rfl, Nat.le_of_ble_eq_true rfl⟩ t_v0 kX11 (by decide) rfl rfl rfl (Nat.le_of_ble_eq_true rfl) ⟨Nat.zero_le _, Nat.zero_le _⟩ (fun S8 h => ?_)
        refine jB C [(.aload_n 0, 1, 0), (.iload_n 1, 1, 0), (.iload_n 2, 1, 0)] 34 [(0, .ref (b + v0)), (1, .int v1), (2, .int v2)] [.int v2, .int v1, .ref (b + v0)] (by decide +kernel) rfl rfl ?_
        refine jcV_V C 37 (rest := []) (ok_X11_exchange t_v0 h) (by decide +kernel : decode cX11_swapNow 34 = .ok (.invokevirtual 480, 3)) rfl wd_1679 wd_1681 wp_150 wd_12 wd_1682 ⟨rfl, rfl⟩ hd_X11_exchange ⟨Nat.le_of_ble_eq_true rfl, Nat.le_of_ble_eq_true rfl⟩ t_v0 kX11 (by decide) rfl rfl rfl (Nat.le_of_ble_eq_true rfl) ⟨Nat.zero_le _, Nat.zero_le _⟩ (fun S9 h => ?_)
        refine jB C [(.aload_n 0, 1, 0), (.iload_n 1, 1, 0)] 39 [(0, .ref (b + v0)), (1, .int v1), (2, .int v2)] [.int v1, .ref (b + v0)] (by decide +kernel) rfl rfl ?_
        refine jcV_I C 42 (rest := []) (ok_X11_lensesOf t_v0 h) (by decide +kernel : decode cX11_swapNow 39 = .ok (.invokevirtual 196, 3)) rfl wd_1382 wd_1384 wp_104 wd_12 wd_1385 ⟨rfl, rfl⟩ hd_X11_lensesOf ⟨Nat.le_of_ble_eq_true rfl, Nat.le_of_ble_eq_true rfl⟩ t_v0 kX11 (by decide) rfl rfl rfl (Nat.le_of_ble_eq_true rfl) ⟨Nat.zero_le _, Nat.zero_le _⟩ (fun r11 S10 h => ?_)
        refine jB C [(.aload_n 0, 1, 0), (.iload_n 2, 1, 0)] 44 [(0, .ref (b + v0)), (1, .int v1), (2, .int v2)] [.int v2, .ref (b + v0), .int r11] (by decide +kernel) rfl rfl ?_
        refine jcV_I C 47 (rest := [.int r11]) (ok_X11_lensesOf t_v0 h) (by decide +kernel : decode cX11_swapNow 44 = .ok (.invokevirtual 196, 3)) rfl wd_1382 wd_1384 wp_104 wd_12 wd_1385 ⟨rfl, rfl⟩ hd_X11_lensesOf ⟨Nat.le_of_ble_eq_true rfl, Nat.le_of_ble_eq_true rfl⟩ t_v0 kX11 (by decide) rfl rfl rfl (Nat.le_of_ble_eq_true rfl) ⟨Nat.zero_le _, Nat.zero_le _⟩ (fun r13 S12 h => ?_)
        refine jB C [(.iadd, 1, 0)] 48 [(0, .ref (b + v0)), (1, .int v1), (2, .int v2)] [.int (r11 + r13)] (by decide +kernel) rfl rfl ?_
        exact jRetI C (by decide +kernel : decode cX11_swapNow 48 = .ok (.ireturn, 1)) (Nat.le_refl _) (Nat.le_refl _) ⟨rfl, h⟩
      · have h := it1 h c7
        refine jB C [(.bipush (-2), 2, (-2))] 25 [(0, .ref (b + v0)), (1, .int v1), (2, .int v2)] [.int (-2)] (by decide +kernel) rfl rfl ?_
        exact jRetI C (by decide +kernel : decode cX11_swapNow 25 = .ok (.ireturn, 1)) (Nat.le_refl _) (Nat.le_refl _) ⟨rfl, h⟩
  · have h := it1 h c1
    refine jB C [(.iconst (-1), 1, (-1))] 6 [(0, .ref (b + v0)), (1, .int v1), (2, .int v2)] [.int (-1)] (by decide +kernel) rfl rfl ?_
    exact jRetI C (by decide +kernel : decode cX11_swapNow 6 = .ok (.ireturn, 1)) (Nat.le_refl _) (Nat.le_refl _) ⟨rfl, h⟩
theorem ok_X11_swapNow {G : Gm} {v0 : Nat} {v1 : Int32} {v2 : Int32} {S : St} {Q : Int32 → St → Prop} (t_v0 : ok G 10 v0) (h : f_X11_swapNow G v0 v1 v2 Q S) : MT yX11_swapNow cX11_swapNow 3 (some .int) rm_X11_swapNow 0 0 (fun b => [.ref (b + v0), .int v1, .int v2]) G S (QI (fun r G1 S1 => G1 = G ∧ Q r S1)) := MT.ofJ (by decide) (fun b => [(0, .ref (b + v0)), (1, .int v1), (2, .int v2)]) (fun b => rfl) (fun b => Nat.le_of_ble_eq_true rfl) (fun l b D cy p e s m below meth c C hE hn => j_X11_swapNow C hE t_v0 h)
theorem hd_X11_swapNow : yX11_swapNow.cls ≠ "java/lang/invoke/MethodHandle" ∧ yX11_swapNow.cls ≠ "java/lang/invoke/VarHandle" ∧ (parseMethodDescriptor yX11_swapNow.desc).map (fun d => d.parameters.length) = some 2 := by decide +kernel
def f_X11_through_5_n (G : Gm) (v0 : Nat) (v1 : Int32) (Q : Int32 → St → Prop) : Nat → Int32 → Int32 → St → Prop
  | 0, _, _, _ => False
  | n + 1, v3, v4, S => f_X11_lensesOf G v0 v1 (fun r2 S1 => (if r2 ≤ v4 then Q v3 S1 else (∃ a4, S1.2.2 v0 3 = some a4 ∧ (∃ a5, S1.2.2 v0 4 = some a5 ∧ (vp_in (((32 + (5 * v1)) + 1) + v4) (G.2.1 a5) ∧ (vp_in ((256 * (S1.1 a5 (((32 + (5 * v1)) + 1) + v4).toNatClampNeg)) + v3) (G.2.1 a4) ∧ (∀ x8 : Int32, x8 = S1.1 a4 ((256 * (S1.1 a5 (((32 + (5 * v1)) + 1) + v4).toNatClampNeg)) + v3).toNatClampNeg → (f_X11_through_5_n G v0 v1 Q n) x8 (v4 + 1) S1))))))) S
def f_X11_through_5 (G : Gm) (v0 : Nat) (v1 : Int32) (Q : Int32 → St → Prop) (v3 : Int32) (v4 : Int32) (S : St) : Prop := ∃ n, f_X11_through_5_n G v0 v1 Q n v3 v4 S
def f_X11_through (G : Gm) (v0 : Nat) (v1 : Int32) (v2 : Int32) (Q : Int32 → St → Prop) (S : St) : Prop :=
  f_X11_through_5 G v0 v1 Q v2 0 S
abbrev rm_X11_through : Room := { frames := 1, cells := 0, slots := 0, locals := 21 }
set_option maxHeartbeats 4000000 in
set_option maxRecDepth 100000 in
theorem j_X11_through_5_n {p : Program} {l : Launch} {e : Env} {s : State} {m : MethodId} {args : Array Value} {below : List Frame} {meth : Method} {c : Code} {b : Nat} {D : va_G} {cy : Nat → ClassId} {G : Gm} {v0 : Nat} {v1 : Int32} {Q : Int32 → St → Prop} (C : CX p s m args meth c b D cy cX11_through RX11 5 (some .int)) (hE : s.heap.size + 0 ≤ b + G.2.2) (t_v0 : ok G 10 v0) : ∀ n (v3 : Int32) (v4 : Int32) S, f_X11_through_5_n G v0 v1 Q n v3 v4 S → J p l e rm_X11_through s m args below meth c b D cy 5 (zI b D cy below args s G Q) 0 0 G S 5 [(0, .ref (b + v0)), (1, .int v1), (3, .int v3), (4, .int v4)] [] := by
  intro n
  induction n with
  | zero => intro v3 v4 S h; exact h.elim
  | succ n ih =>
    intro v3 v4 S h
    unfold f_X11_through_5_n at h
    refine jB C [(.iload 4, 2, 0), (.aload_n 0, 1, 0), (.iload_n 1, 1, 0)] 9 [(0, .ref (b + v0)), (1, .int v1), (3, .int v3), (4, .int v4)] [.int v1, .ref (b + v0), .int v4] (by decide +kernel) rfl rfl ?_
    refine jcV_I C 12 (rest := [.int v4]) (ok_X11_lensesOf t_v0 h) (by decide +kernel : decode cX11_through 9 = .ok (.invokevirtual 196, 3)) rfl wd_1382 wd_1384 wp_104 wd_12 wd_1385 ⟨rfl, rfl⟩ hd_X11_lensesOf ⟨Nat.le_of_ble_eq_true rfl, Nat.le_of_ble_eq_true rfl⟩ t_v0 kX11 (by decide) rfl rfl rfl (Nat.le_of_ble_eq_true rfl) ⟨Nat.zero_le _, Nat.zero_le _⟩ (fun r2 S1 h => ?_)
    refine jIcmp_ge C 15 49 (by decide +kernel : decode cX11_through 12 = .ok (.if_icmp .ge 37, 3)) rfl rfl (fun c3 => ?_) (fun c3 => ?_)
    · have h := it1 h c3
      refine jB C [(.iload_n 3, 1, 0)] 50 [(0, .ref (b + v0)), (1, .int v1), (3, .int v3), (4, .int v4)] [.int v3] (by decide +kernel) rfl rfl ?_
      exact jRetI C (by decide +kernel : decode cX11_through 50 = .ok (.ireturn, 1)) (Nat.le_refl _) (Nat.le_refl _) ⟨rfl, h⟩
    · have h := it2 h c3
      refine jB C [(.aload_n 0, 1, 0)] 16 [(0, .ref (b + v0)), (1, .int v1), (3, .int v3), (4, .int v4)] [.ref (b + v0)] (by decide +kernel) rfl rfl ?_
      obtain ⟨a4, e_a4, h⟩ := h
      refine jGetR C 19 (by decide +kernel : decode cX11_through 16 = .ok (.getfield 13, 3)) rfl t_v0 kX11 3 (by decide) rfl rfl (by decide) wd_1157 e_a4 rfl (fun t_a4 => ?_)
      refine jB C [(.sipush 256, 3, 256), (.aload_n 0, 1, 0)] 23 [(0, .ref (b + v0)), (1, .int v1), (3, .int v3), (4, .int v4)] [.ref (b + v0), .int 256, .ref (b + a4)] (by decide +kernel) rfl rfl ?_
      obtain ⟨a5, e_a5, h⟩ := h
      refine jGetR C 26 (by decide +kernel : decode cX11_through 23 = .ok (.getfield 16, 3)) rfl t_v0 kX11 4 (by decide) rfl rfl (by decide) wd_1158 e_a5 rfl (fun t_a5 => ?_)
      refine jB C [(.bipush 32, 2, 32), (.iconst 5, 1, 5), (.iload_n 1, 1, 0), (.imul, 1, 0), (.iadd, 1, 0), (.iconst 1, 1, 1), (.iadd, 1, 0), (.iload 4, 2, 0), (.iadd, 1, 0)] 37 [(0, .ref (b + v0)), (1, .int v1), (3, .int v3), (4, .int v4)] [.int (((32 + (5 * v1)) + 1) + v4), .ref (b + a5), .int 256, .ref (b + a4)] (by decide +kernel) rfl rfl ?_
      obtain ⟨y6, h⟩ := h
      refine jIald C 38 (by decide +kernel : decode cX11_through 37 = .ok (.iaload, 1)) rfl t_a5 y6 ?_
      refine jB C [(.imul, 1, 0), (.iload_n 3, 1, 0), (.iadd, 1, 0)] 41 [(0, .ref (b + v0)), (1, .int v1), (3, .int v3), (4, .int v4)] [.int ((256 * (S1.1 a5 (((32 + (5 * v1)) + 1) + v4).toNatClampNeg)) + v3), .ref (b + a4)] (by decide +kernel) rfl rfl ?_
      obtain ⟨y7, h⟩ := h
      refine jIald C 42 (by decide +kernel : decode cX11_through 41 = .ok (.iaload, 1)) rfl t_a4 y7 ?_
      refine jTopI (fun x8 e_x8 => ?_)
      have h := h x8 e_x8
      refine jB C [(.istore_n 3, 1, 0), (.iinc 4 1, 3, 1)] 46 [(4, .int (v4 + 1)), (3, .int x8), (0, .ref (b + v0)), (1, .int v1)] [] (by decide +kernel) rfl rfl ?_
      refine jGoto C 5 (by decide +kernel : decode cX11_through 46 = .ok (.goto (-41), 3)) rfl ?_
      refine jSub [2, 3, 1, 0] rfl ?_
      exact ih x8 (v4 + 1) S1 h
theorem j_X11_through_5 {p : Program} {l : Launch} {e : Env} {s : State} {m : MethodId} {args : Array Value} {below : List Frame} {meth : Method} {c : Code} {b : Nat} {D : va_G} {cy : Nat → ClassId} {G : Gm} {v0 : Nat} {v1 : Int32} {v3 : Int32} {v4 : Int32} {S : St} {Q : Int32 → St → Prop} (C : CX p s m args meth c b D cy cX11_through RX11 5 (some .int)) (hE : s.heap.size + 0 ≤ b + G.2.2) (t_v0 : ok G 10 v0) (h : f_X11_through_5 G v0 v1 Q v3 v4 S) : J p l e rm_X11_through s m args below meth c b D cy 5 (zI b D cy below args s G Q) 0 0 G S 5 [(0, .ref (b + v0)), (1, .int v1), (3, .int v3), (4, .int v4)] [] := by
  obtain ⟨n, h⟩ := h
  exact j_X11_through_5_n C hE t_v0 n v3 v4 S h
set_option maxHeartbeats 4000000 in
set_option maxRecDepth 100000 in
theorem j_X11_through {p : Program} {l : Launch} {e : Env} {s : State} {m : MethodId} {args : Array Value} {below : List Frame} {meth : Method} {c : Code} {b : Nat} {D : va_G} {cy : Nat → ClassId} {G : Gm} {v0 : Nat} {v1 : Int32} {v2 : Int32} {S : St} {Q : Int32 → St → Prop} (C : CX p s m args meth c b D cy cX11_through RX11 5 (some .int)) (hE : s.heap.size + 0 ≤ b + G.2.2) (t_v0 : ok G 10 v0) (h : f_X11_through G v0 v1 v2 Q S) : J p l e rm_X11_through s m args below meth c b D cy 5 (zI b D cy below args s G Q) 0 0 G S 0 [(0, .ref (b + v0)), (1, .int v1), (2, .int v2)] [] := by
  unfold f_X11_through at h
  refine jB C [(.iload_n 2, 1, 0), (.istore_n 3, 1, 0), (.iconst 0, 1, 0), (.istore 4, 2, 0)] 5 [(4, .int 0), (3, .int v2), (0, .ref (b + v0)), (1, .int v1), (2, .int v2)] [] (by decide +kernel) rfl rfl ?_
  refine jSub [2, 3, 1, 0] rfl ?_
  exact j_X11_through_5 C hE t_v0 h
theorem ok_X11_through {G : Gm} {v0 : Nat} {v1 : Int32} {v2 : Int32} {S : St} {Q : Int32 → St → Prop} (t_v0 : ok G 10 v0) (h : f_X11_through G v0 v1 v2 Q S) : MT yX11_through cX11_through 5 (some .int) rm_X11_through 0 0 (fun b => [.ref (b + v0), .int v1, .int v2]) G S (QI (fun r G1 S1 => G1 = G ∧ Q r S1)) := MT.ofJ (by decide) (fun b => [(0, .ref (b + v0)), (1, .int v1), (2, .int v2)]) (fun b => rfl) (fun b => Nat.le_of_ble_eq_true rfl) (fun l b D cy p e s m below meth c C hE hn => j_X11_through C hE t_v0 h)
theorem hd_X11_through : yX11_through.cls ≠ "java/lang/invoke/MethodHandle" ∧ yX11_through.cls ≠ "java/lang/invoke/VarHandle" ∧ (parseMethodDescriptor yX11_through.desc).map (fun d => d.parameters.length) = some 2 := by decide +kernel
def f_X11_sightOf (G : Gm) (v0 : Nat) (v1 : Int32) (Q : Int32 → St → Prop) (S : St) : Prop :=
  (∃ a1, S.2.2 v0 4 = some a1 ∧ (vp_in 7 (G.2.1 a1) ∧ f_X11_through G v0 v1 (S.1 a1 7.toNatClampNeg) (fun r4 S3 => Q r4 S3) S))
abbrev rm_X11_sightOf : Room := { frames := 2, cells := 0, slots := 0, locals := 45 }
set_option maxHeartbeats 4000000 in
set_option maxRecDepth 100000 in
theorem j_X11_sightOf {p : Program} {l : Launch} {e : Env} {s : State} {m : MethodId} {args : Array Value} {below : List Frame} {meth : Method} {c : Code} {b : Nat} {D : va_G} {cy : Nat → ClassId} {G : Gm} {v0 : Nat} {v1 : Int32} {S : St} {Q : Int32 → St → Prop} (C : CX p s m args meth c b D cy cX11_sightOf RX11 2 (some .int)) (hE : s.heap.size + 0 ≤ b + G.2.2) (t_v0 : ok G 10 v0) (h : f_X11_sightOf G v0 v1 Q S) : J p l e rm_X11_sightOf s m args below meth c b D cy 2 (zI b D cy below args s G Q) 0 0 G S 0 [(0, .ref (b + v0)), (1, .int v1)] [] := by
  unfold f_X11_sightOf at h
  refine jB C [(.aload_n 0, 1, 0), (.iload_n 1, 1, 0), (.aload_n 0, 1, 0)] 3 [(0, .ref (b + v0)), (1, .int v1)] [.ref (b + v0), .int v1, .ref (b + v0)] (by decide +kernel) rfl rfl ?_
  obtain ⟨a1, e_a1, h⟩ := h
  refine jGetR C 6 (by decide +kernel : decode cX11_sightOf 3 = .ok (.getfield 16, 3)) rfl t_v0 kX11 4 (by decide) rfl rfl (by decide) wd_1158 e_a1 rfl (fun t_a1 => ?_)
  refine jB C [(.bipush 7, 2, 7)] 8 [(0, .ref (b + v0)), (1, .int v1)] [.int 7, .ref (b + a1), .int v1, .ref (b + v0)] (by decide +kernel) rfl rfl ?_
  obtain ⟨y2, h⟩ := h
  refine jIald C 9 (by decide +kernel : decode cX11_sightOf 8 = .ok (.iaload, 1)) rfl t_a1 y2 ?_
  refine jcV_I C 12 (rest := []) (ok_X11_through t_v0 h) (by decide +kernel : decode cX11_sightOf 9 = .ok (.invokevirtual 199, 3)) rfl wd_1390 wd_1392 wp_106 wd_12 wd_1393 ⟨rfl, rfl⟩ hd_X11_through ⟨Nat.le_of_ble_eq_true rfl, Nat.le_of_ble_eq_true rfl⟩ t_v0 kX11 (by decide) rfl rfl rfl (Nat.le_of_ble_eq_true rfl) ⟨Nat.zero_le _, Nat.zero_le _⟩ (fun r4 S3 h => ?_)
  exact jRetI C (by decide +kernel : decode cX11_sightOf 12 = .ok (.ireturn, 1)) (Nat.le_refl _) (Nat.le_refl _) ⟨rfl, h⟩
theorem ok_X11_sightOf {G : Gm} {v0 : Nat} {v1 : Int32} {S : St} {Q : Int32 → St → Prop} (t_v0 : ok G 10 v0) (h : f_X11_sightOf G v0 v1 Q S) : MT yX11_sightOf cX11_sightOf 2 (some .int) rm_X11_sightOf 0 0 (fun b => [.ref (b + v0), .int v1]) G S (QI (fun r G1 S1 => G1 = G ∧ Q r S1)) := MT.ofJ (by decide) (fun b => [(0, .ref (b + v0)), (1, .int v1)]) (fun b => rfl) (fun b => Nat.le_of_ble_eq_true rfl) (fun l b D cy p e s m below meth c C hE hn => j_X11_sightOf C hE t_v0 h)
theorem hd_X11_sightOf : yX11_sightOf.cls ≠ "java/lang/invoke/MethodHandle" ∧ yX11_sightOf.cls ≠ "java/lang/invoke/VarHandle" ∧ (parseMethodDescriptor yX11_sightOf.desc).map (fun d => d.parameters.length) = some 1 := by decide +kernel
def f_X11_sinsOf_4_n (G : Gm) (v0 : Nat) (v1 : Int32) (Q : Int32 → St → Prop) : Nat → Int32 → Int32 → St → Prop
  | 0, _, _, _ => False
  | n + 1, v2, v3, S => (if 4 ≤ v3 then Q v2 S else (∃ a2, S.2.2 v0 4 = some a2 ∧ (vp_in ((8 + (4 * v1)) + v3) (G.2.1 a2) ∧ (∀ x4 : Int32, x4 = v2 + (S.1 a2 ((8 + (4 * v1)) + v3).toNatClampNeg) → (f_X11_sinsOf_4_n G v0 v1 Q n) x4 (v3 + 1) S))))
def f_X11_sinsOf_4 (G : Gm) (v0 : Nat) (v1 : Int32) (Q : Int32 → St → Prop) (v2 : Int32) (v3 : Int32) (S : St) : Prop := ∃ n, f_X11_sinsOf_4_n G v0 v1 Q n v2 v3 S
def f_X11_sinsOf (G : Gm) (v0 : Nat) (v1 : Int32) (Q : Int32 → St → Prop) (S : St) : Prop :=
  f_X11_sinsOf_4 G v0 v1 Q 0 0 S
abbrev rm_X11_sinsOf : Room := { frames := 0, cells := 0, slots := 0, locals := 0 }
set_option maxHeartbeats 4000000 in
set_option maxRecDepth 100000 in
theorem j_X11_sinsOf_4_n {p : Program} {l : Launch} {e : Env} {s : State} {m : MethodId} {args : Array Value} {below : List Frame} {meth : Method} {c : Code} {b : Nat} {D : va_G} {cy : Nat → ClassId} {G : Gm} {v0 : Nat} {v1 : Int32} {Q : Int32 → St → Prop} (C : CX p s m args meth c b D cy cX11_sinsOf RX11 4 (some .int)) (hE : s.heap.size + 0 ≤ b + G.2.2) (t_v0 : ok G 10 v0) : ∀ n (v2 : Int32) (v3 : Int32) S, f_X11_sinsOf_4_n G v0 v1 Q n v2 v3 S → J p l e rm_X11_sinsOf s m args below meth c b D cy 4 (zI b D cy below args s G Q) 0 0 G S 4 [(0, .ref (b + v0)), (1, .int v1), (2, .int v2), (3, .int v3)] [] := by
  intro n
  induction n with
  | zero => intro v2 v3 S h; exact h.elim
  | succ n ih =>
    intro v2 v3 S h
    unfold f_X11_sinsOf_4_n at h
    refine jB C [(.iload_n 3, 1, 0), (.iconst 4, 1, 4)] 6 [(0, .ref (b + v0)), (1, .int v1), (2, .int v2), (3, .int v3)] [.int 4, .int v3] (by decide +kernel) rfl rfl ?_
    refine jIcmp_ge C 9 31 (by decide +kernel : decode cX11_sinsOf 6 = .ok (.if_icmp .ge 25, 3)) rfl rfl (fun c1 => ?_) (fun c1 => ?_)
    · have h := it1 h c1
      refine jB C [(.iload_n 2, 1, 0)] 32 [(0, .ref (b + v0)), (1, .int v1), (2, .int v2), (3, .int v3)] [.int v2] (by decide +kernel) rfl rfl ?_
      exact jRetI C (by decide +kernel : decode cX11_sinsOf 32 = .ok (.ireturn, 1)) (Nat.le_refl _) (Nat.le_refl _) ⟨rfl, h⟩
    · have h := it2 h c1
      refine jB C [(.iload_n 2, 1, 0), (.aload_n 0, 1, 0)] 11 [(0, .ref (b + v0)), (1, .int v1), (2, .int v2), (3, .int v3)] [.ref (b + v0), .int v2] (by decide +kernel) rfl rfl ?_
      obtain ⟨a2, e_a2, h⟩ := h
      refine jGetR C 14 (by decide +kernel : decode cX11_sinsOf 11 = .ok (.getfield 16, 3)) rfl t_v0 kX11 4 (by decide) rfl rfl (by decide) wd_1158 e_a2 rfl (fun t_a2 => ?_)
      refine jB C [(.bipush 8, 2, 8), (.iconst 4, 1, 4), (.iload_n 1, 1, 0), (.imul, 1, 0), (.iadd, 1, 0), (.iload_n 3, 1, 0), (.iadd, 1, 0)] 22 [(0, .ref (b + v0)), (1, .int v1), (2, .int v2), (3, .int v3)] [.int ((8 + (4 * v1)) + v3), .ref (b + a2), .int v2] (by decide +kernel) rfl rfl ?_
      obtain ⟨y3, h⟩ := h
      refine jIald C 23 (by decide +kernel : decode cX11_sinsOf 22 = .ok (.iaload, 1)) rfl t_a2 y3 ?_
      refine jB C [(.iadd, 1, 0)] 24 [(0, .ref (b + v0)), (1, .int v1), (2, .int v2), (3, .int v3)] [.int (v2 + (S.1 a2 ((8 + (4 * v1)) + v3).toNatClampNeg))] (by decide +kernel) rfl rfl ?_
      refine jTopI (fun x4 e_x4 => ?_)
      have h := h x4 e_x4
      refine jB C [(.istore_n 2, 1, 0), (.iinc 3 1, 3, 1)] 28 [(3, .int (v3 + 1)), (2, .int x4), (0, .ref (b + v0)), (1, .int v1)] [] (by decide +kernel) rfl rfl ?_
      refine jGoto C 4 (by decide +kernel : decode cX11_sinsOf 28 = .ok (.goto (-24), 3)) rfl ?_
      refine jSub [2, 3, 1, 0] rfl ?_
      exact ih x4 (v3 + 1) S h
theorem j_X11_sinsOf_4 {p : Program} {l : Launch} {e : Env} {s : State} {m : MethodId} {args : Array Value} {below : List Frame} {meth : Method} {c : Code} {b : Nat} {D : va_G} {cy : Nat → ClassId} {G : Gm} {v0 : Nat} {v1 : Int32} {v2 : Int32} {v3 : Int32} {S : St} {Q : Int32 → St → Prop} (C : CX p s m args meth c b D cy cX11_sinsOf RX11 4 (some .int)) (hE : s.heap.size + 0 ≤ b + G.2.2) (t_v0 : ok G 10 v0) (h : f_X11_sinsOf_4 G v0 v1 Q v2 v3 S) : J p l e rm_X11_sinsOf s m args below meth c b D cy 4 (zI b D cy below args s G Q) 0 0 G S 4 [(0, .ref (b + v0)), (1, .int v1), (2, .int v2), (3, .int v3)] [] := by
  obtain ⟨n, h⟩ := h
  exact j_X11_sinsOf_4_n C hE t_v0 n v2 v3 S h
set_option maxHeartbeats 4000000 in
set_option maxRecDepth 100000 in
theorem j_X11_sinsOf {p : Program} {l : Launch} {e : Env} {s : State} {m : MethodId} {args : Array Value} {below : List Frame} {meth : Method} {c : Code} {b : Nat} {D : va_G} {cy : Nat → ClassId} {G : Gm} {v0 : Nat} {v1 : Int32} {S : St} {Q : Int32 → St → Prop} (C : CX p s m args meth c b D cy cX11_sinsOf RX11 4 (some .int)) (hE : s.heap.size + 0 ≤ b + G.2.2) (t_v0 : ok G 10 v0) (h : f_X11_sinsOf G v0 v1 Q S) : J p l e rm_X11_sinsOf s m args below meth c b D cy 4 (zI b D cy below args s G Q) 0 0 G S 0 [(0, .ref (b + v0)), (1, .int v1)] [] := by
  unfold f_X11_sinsOf at h
  refine jB C [(.iconst 0, 1, 0), (.istore_n 2, 1, 0), (.iconst 0, 1, 0), (.istore_n 3, 1, 0)] 4 [(3, .int 0), (2, .int 0), (0, .ref (b + v0)), (1, .int v1)] [] (by decide +kernel) rfl rfl ?_
  refine jSub [2, 3, 1, 0] rfl ?_
  exact j_X11_sinsOf_4 C hE t_v0 h
theorem ok_X11_sinsOf {G : Gm} {v0 : Nat} {v1 : Int32} {S : St} {Q : Int32 → St → Prop} (t_v0 : ok G 10 v0) (h : f_X11_sinsOf G v0 v1 Q S) : MT yX11_sinsOf cX11_sinsOf 4 (some .int) rm_X11_sinsOf 0 0 (fun b => [.ref (b + v0), .int v1]) G S (QI (fun r G1 S1 => G1 = G ∧ Q r S1)) := MT.ofJ (by decide) (fun b => [(0, .ref (b + v0)), (1, .int v1)]) (fun b => rfl) (fun b => Nat.le_of_ble_eq_true rfl) (fun l b D cy p e s m below meth c C hE hn => j_X11_sinsOf C hE t_v0 h)
theorem hd_X11_sinsOf : yX11_sinsOf.cls ≠ "java/lang/invoke/MethodHandle" ∧ yX11_sinsOf.cls ≠ "java/lang/invoke/VarHandle" ∧ (parseMethodDescriptor yX11_sinsOf.desc).map (fun d => d.parameters.length) = some 1 := by decide +kernel
def f_X11_litOf_4_n (G : Gm) (v0 : Int32) (Q : Int32 → St → Prop) : Nat → Int32 → Int32 → St → Prop
  | 0, _, _, _ => False
  | n + 1, v1, v2, S => (if 8 ≤ v2 then Q v1 S else (∀ x2 : Int32, x2 = v1 + ((v0 >>> ((v2 : Int32) &&& 31)) &&& 1) → (f_X11_litOf_4_n G v0 Q n) x2 (v2 + 1) S))
def f_X11_litOf_4 (G : Gm) (v0 : Int32) (Q : Int32 → St → Prop) (v1 : Int32) (v2 : Int32) (S : St) : Prop := ∃ n, f_X11_litOf_4_n G v0 Q n v1 v2 S
def f_X11_litOf (G : Gm) (v0 : Int32) (Q : Int32 → St → Prop) (S : St) : Prop :=
  f_X11_litOf_4 G v0 Q 0 0 S
abbrev rm_X11_litOf : Room := { frames := 0, cells := 0, slots := 0, locals := 0 }
set_option maxHeartbeats 4000000 in
set_option maxRecDepth 100000 in
theorem j_X11_litOf_4_n {p : Program} {l : Launch} {e : Env} {s : State} {m : MethodId} {args : Array Value} {below : List Frame} {meth : Method} {c : Code} {b : Nat} {D : va_G} {cy : Nat → ClassId} {G : Gm} {v0 : Int32} {Q : Int32 → St → Prop} (C : CX p s m args meth c b D cy cX11_litOf RX11 3 (some .int)) (hE : s.heap.size + 0 ≤ b + G.2.2) : ∀ n (v1 : Int32) (v2 : Int32) S, f_X11_litOf_4_n G v0 Q n v1 v2 S → J p l e rm_X11_litOf s m args below meth c b D cy 3 (zI b D cy below args s G Q) 0 0 G S 4 [(0, .int v0), (1, .int v1), (2, .int v2)] [] := by
  intro n
  induction n with
  | zero => intro v1 v2 S h; exact h.elim
  | succ n ih =>
    intro v1 v2 S h
    unfold f_X11_litOf_4_n at h
    refine jB C [(.iload_n 2, 1, 0), (.bipush 8, 2, 8)] 7 [(0, .int v0), (1, .int v1), (2, .int v2)] [.int 8, .int v2] (by decide +kernel) rfl rfl ?_
    refine jIcmp_ge C 10 24 (by decide +kernel : decode cX11_litOf 7 = .ok (.if_icmp .ge 17, 3)) rfl rfl (fun c1 => ?_) (fun c1 => ?_)
    · have h := it1 h c1
      refine jB C [(.iload_n 1, 1, 0)] 25 [(0, .int v0), (1, .int v1), (2, .int v2)] [.int v1] (by decide +kernel) rfl rfl ?_
      exact jRetI C (by decide +kernel : decode cX11_litOf 25 = .ok (.ireturn, 1)) (Nat.le_refl _) (Nat.le_refl _) ⟨rfl, h⟩
    · have h := it2 h c1
      refine jB C [(.iload_n 1, 1, 0), (.iload_n 0, 1, 0), (.iload_n 2, 1, 0), (.ishr, 1, 0), (.iconst 1, 1, 1), (.iand, 1, 0), (.iadd, 1, 0)] 17 [(0, .int v0), (1, .int v1), (2, .int v2)] [.int (v1 + ((v0 >>> ((v2 : Int32) &&& 31)) &&& 1))] (by decide +kernel) rfl rfl ?_
      refine jTopI (fun x2 e_x2 => ?_)
      have h := h x2 e_x2
      refine jB C [(.istore_n 1, 1, 0), (.iinc 2 1, 3, 1)] 21 [(2, .int (v2 + 1)), (1, .int x2), (0, .int v0)] [] (by decide +kernel) rfl rfl ?_
      refine jGoto C 4 (by decide +kernel : decode cX11_litOf 21 = .ok (.goto (-17), 3)) rfl ?_
      refine jSub [2, 1, 0] rfl ?_
      exact ih x2 (v2 + 1) S h
theorem j_X11_litOf_4 {p : Program} {l : Launch} {e : Env} {s : State} {m : MethodId} {args : Array Value} {below : List Frame} {meth : Method} {c : Code} {b : Nat} {D : va_G} {cy : Nat → ClassId} {G : Gm} {v0 : Int32} {v1 : Int32} {v2 : Int32} {S : St} {Q : Int32 → St → Prop} (C : CX p s m args meth c b D cy cX11_litOf RX11 3 (some .int)) (hE : s.heap.size + 0 ≤ b + G.2.2) (h : f_X11_litOf_4 G v0 Q v1 v2 S) : J p l e rm_X11_litOf s m args below meth c b D cy 3 (zI b D cy below args s G Q) 0 0 G S 4 [(0, .int v0), (1, .int v1), (2, .int v2)] [] := by
  obtain ⟨n, h⟩ := h
  exact j_X11_litOf_4_n C hE n v1 v2 S h
set_option maxHeartbeats 4000000 in
set_option maxRecDepth 100000 in
theorem j_X11_litOf {p : Program} {l : Launch} {e : Env} {s : State} {m : MethodId} {args : Array Value} {below : List Frame} {meth : Method} {c : Code} {b : Nat} {D : va_G} {cy : Nat → ClassId} {G : Gm} {v0 : Int32} {S : St} {Q : Int32 → St → Prop} (C : CX p s m args meth c b D cy cX11_litOf RX11 3 (some .int)) (hE : s.heap.size + 0 ≤ b + G.2.2) (h : f_X11_litOf G v0 Q S) : J p l e rm_X11_litOf s m args below meth c b D cy 3 (zI b D cy below args s G Q) 0 0 G S 0 [(0, .int v0)] [] := by
  unfold f_X11_litOf at h
  refine jB C [(.iconst 0, 1, 0), (.istore_n 1, 1, 0), (.iconst 0, 1, 0), (.istore_n 2, 1, 0)] 4 [(2, .int 0), (1, .int 0), (0, .int v0)] [] (by decide +kernel) rfl rfl ?_
  refine jSub [2, 1, 0] rfl ?_
  exact j_X11_litOf_4 C hE h
theorem ok_X11_litOf {G : Gm} {v0 : Int32} {S : St} {Q : Int32 → St → Prop} (h : f_X11_litOf G v0 Q S) : MT yX11_litOf cX11_litOf 3 (some .int) rm_X11_litOf 0 0 (fun b => [.int v0]) G S (QI (fun r G1 S1 => G1 = G ∧ Q r S1)) := MT.ofJ (by decide) (fun b => [(0, .int v0)]) (fun b => rfl) (fun b => Nat.le_of_ble_eq_true rfl) (fun l b D cy p e s m below meth c C hE hn => j_X11_litOf C hE h)
theorem hd_X11_litOf : yX11_litOf.cls ≠ "java/lang/invoke/MethodHandle" ∧ yX11_litOf.cls ≠ "java/lang/invoke/VarHandle" ∧ (parseMethodDescriptor yX11_litOf.desc).map (fun d => d.parameters.length) = some 1 := by decide +kernel
def f_X11_is (G : Gm) (v0 : Int32) (v1 : Int32) (Q : Int32 → St → Prop) (S : St) : Prop :=
  (if ((v0 >>> ((v1 : Int32) &&& 31)) &&& 1) = 1 then Q 1 S else Q 0 S)
abbrev rm_X11_is : Room := { frames := 0, cells := 0, slots := 0, locals := 0 }
set_option maxHeartbeats 4000000 in
set_option maxRecDepth 100000 in
theorem j_X11_is {p : Program} {l : Launch} {e : Env} {s : State} {m : MethodId} {args : Array Value} {below : List Frame} {meth : Method} {c : Code} {b : Nat} {D : va_G} {cy : Nat → ClassId} {G : Gm} {v0 : Int32} {v1 : Int32} {S : St} {Q : Int32 → St → Prop} (C : CX p s m args meth c b D cy cX11_is RX11 2 (some .boolean)) (hE : s.heap.size + 0 ≤ b + G.2.2) (h : f_X11_is G v0 v1 Q S) : J p l e rm_X11_is s m args below meth c b D cy 2 (zI b D cy below args s G Q) 0 0 G S 0 [(0, .int v0), (1, .int v1)] [] := by
  unfold f_X11_is at h
  refine jB C [(.iload_n 0, 1, 0), (.iload_n 1, 1, 0), (.ishr, 1, 0), (.iconst 1, 1, 1), (.iand, 1, 0), (.iconst 1, 1, 1)] 6 [(0, .int v0), (1, .int v1)] [.int 1, .int ((v0 >>> ((v1 : Int32) &&& 31)) &&& 1)] (by decide +kernel) rfl rfl ?_
  refine jIcmp_ne C 9 13 (by decide +kernel : decode cX11_is 6 = .ok (.if_icmp .ne 7, 3)) rfl rfl (fun c1 => ?_) (fun c1 => ?_)
  · have h := it2 h c1
    refine jB C [(.iconst 0, 1, 0)] 14 [(0, .int v0), (1, .int v1)] [.int 0] (by decide +kernel) rfl rfl ?_
    exact jRetZ C (by decide +kernel : decode cX11_is 14 = .ok (.ireturn, 1)) (Nat.le_refl _) (Nat.le_refl _) (by decide) ⟨rfl, h⟩
  · have h := it1 h c1
    refine jB C [(.iconst 1, 1, 1)] 10 [(0, .int v0), (1, .int v1)] [.int 1] (by decide +kernel) rfl rfl ?_
    refine jGoto C 14 (by decide +kernel : decode cX11_is 10 = .ok (.goto 4, 3)) rfl ?_
    exact jRetZ C (by decide +kernel : decode cX11_is 14 = .ok (.ireturn, 1)) (Nat.le_refl _) (Nat.le_refl _) (by decide) ⟨rfl, h⟩
theorem ok_X11_is {G : Gm} {v0 : Int32} {v1 : Int32} {S : St} {Q : Int32 → St → Prop} (h : f_X11_is G v0 v1 Q S) : MT yX11_is cX11_is 2 (some .boolean) rm_X11_is 0 0 (fun b => [.int v0, .int v1]) G S (QI (fun r G1 S1 => G1 = G ∧ Q r S1)) := MT.ofJ (by decide) (fun b => [(0, .int v0), (1, .int v1)]) (fun b => rfl) (fun b => Nat.le_of_ble_eq_true rfl) (fun l b D cy p e s m below meth c C hE hn => j_X11_is C hE h)
theorem hd_X11_is : yX11_is.cls ≠ "java/lang/invoke/MethodHandle" ∧ yX11_is.cls ≠ "java/lang/invoke/VarHandle" ∧ (parseMethodDescriptor yX11_is.desc).map (fun d => d.parameters.length) = some 2 := by decide +kernel
def f_X11_firstOf_2_n (G : Gm) (v0 : Int32) (Q : Int32 → St → Prop) : Nat → Int32 → St → Prop
  | 0, _, _ => False
  | n + 1, v1, S => (if 8 ≤ v1 then Q v1 S else f_X11_is G v0 v1 (fun r3 S2 => (if r3 = 0 then (f_X11_firstOf_2_n G v0 Q n) (v1 + 1) S2 else Q v1 S2)) S)
def f_X11_firstOf_2 (G : Gm) (v0 : Int32) (Q : Int32 → St → Prop) (v1 : Int32) (S : St) : Prop := ∃ n, f_X11_firstOf_2_n G v0 Q n v1 S
def f_X11_firstOf (G : Gm) (v0 : Int32) (Q : Int32 → St → Prop) (S : St) : Prop :=
  f_X11_firstOf_2 G v0 Q 0 S
abbrev rm_X11_firstOf : Room := { frames := 1, cells := 0, slots := 0, locals := 21 }
set_option maxHeartbeats 4000000 in
set_option maxRecDepth 100000 in
theorem j_X11_firstOf_2_n {p : Program} {l : Launch} {e : Env} {s : State} {m : MethodId} {args : Array Value} {below : List Frame} {meth : Method} {c : Code} {b : Nat} {D : va_G} {cy : Nat → ClassId} {G : Gm} {v0 : Int32} {Q : Int32 → St → Prop} (C : CX p s m args meth c b D cy cX11_firstOf RX11 2 (some .int)) (hE : s.heap.size + 0 ≤ b + G.2.2) : ∀ n (v1 : Int32) S, f_X11_firstOf_2_n G v0 Q n v1 S → J p l e rm_X11_firstOf s m args below meth c b D cy 2 (zI b D cy below args s G Q) 0 0 G S 2 [(0, .int v0), (1, .int v1)] [] := by
  intro n
  induction n with
  | zero => intro v1 S h; exact h.elim
  | succ n ih =>
    intro v1 S h
    unfold f_X11_firstOf_2_n at h
    refine jB C [(.iload_n 1, 1, 0), (.bipush 8, 2, 8)] 5 [(0, .int v0), (1, .int v1)] [.int 8, .int v1] (by decide +kernel) rfl rfl ?_
    refine jIcmp_ge C 8 22 (by decide +kernel : decode cX11_firstOf 5 = .ok (.if_icmp .ge 17, 3)) rfl rfl (fun c1 => ?_) (fun c1 => ?_)
    · have h := it1 h c1
      refine jB C [(.iload_n 1, 1, 0)] 23 [(0, .int v0), (1, .int v1)] [.int v1] (by decide +kernel) rfl rfl ?_
      exact jRetI C (by decide +kernel : decode cX11_firstOf 23 = .ok (.ireturn, 1)) (Nat.le_refl _) (Nat.le_refl _) ⟨rfl, h⟩
    · have h := it2 h c1
      refine jB C [(.iload_n 0, 1, 0), (.iload_n 1, 1, 0)] 10 [(0, .int v0), (1, .int v1)] [.int v1, .int v0] (by decide +kernel) rfl rfl ?_
      refine jcS_I C 13 (rest := []) (ok_X11_is h) (by decide +kernel : decode cX11_firstOf 10 = .ok (.invokestatic 161, 3)) rfl wd_1151 wd_1152 wd_12 wd_1153 ⟨rfl, rfl⟩ hd_X11_is ⟨Nat.le_of_ble_eq_true rfl, Nat.le_of_ble_eq_true rfl⟩ rfl rfl (Nat.le_of_ble_eq_true rfl) ⟨Nat.zero_le _, Nat.zero_le _⟩ (fun r3 S2 h => ?_)
      refine jIf_ne C 16 22 (by decide +kernel : decode cX11_firstOf 13 = .ok (.ifCond .ne 9, 3)) rfl rfl (fun c4 => ?_) (fun c4 => ?_)
      · have h := it2 h c4
        refine jB C [(.iload_n 1, 1, 0)] 23 [(0, .int v0), (1, .int v1)] [.int v1] (by decide +kernel) rfl rfl ?_
        exact jRetI C (by decide +kernel : decode cX11_firstOf 23 = .ok (.ireturn, 1)) (Nat.le_refl _) (Nat.le_refl _) ⟨rfl, h⟩
      · have h := it1 h c4
        refine jB C [(.iinc 1 1, 3, 1)] 19 [(1, .int (v1 + 1)), (0, .int v0)] [] (by decide +kernel) rfl rfl ?_
        refine jGoto C 2 (by decide +kernel : decode cX11_firstOf 19 = .ok (.goto (-17), 3)) rfl ?_
        refine jSub [1, 0] rfl ?_
        exact ih (v1 + 1) S2 h
theorem j_X11_firstOf_2 {p : Program} {l : Launch} {e : Env} {s : State} {m : MethodId} {args : Array Value} {below : List Frame} {meth : Method} {c : Code} {b : Nat} {D : va_G} {cy : Nat → ClassId} {G : Gm} {v0 : Int32} {v1 : Int32} {S : St} {Q : Int32 → St → Prop} (C : CX p s m args meth c b D cy cX11_firstOf RX11 2 (some .int)) (hE : s.heap.size + 0 ≤ b + G.2.2) (h : f_X11_firstOf_2 G v0 Q v1 S) : J p l e rm_X11_firstOf s m args below meth c b D cy 2 (zI b D cy below args s G Q) 0 0 G S 2 [(0, .int v0), (1, .int v1)] [] := by
  obtain ⟨n, h⟩ := h
  exact j_X11_firstOf_2_n C hE n v1 S h
set_option maxHeartbeats 4000000 in
set_option maxRecDepth 100000 in
theorem j_X11_firstOf {p : Program} {l : Launch} {e : Env} {s : State} {m : MethodId} {args : Array Value} {below : List Frame} {meth : Method} {c : Code} {b : Nat} {D : va_G} {cy : Nat → ClassId} {G : Gm} {v0 : Int32} {S : St} {Q : Int32 → St → Prop} (C : CX p s m args meth c b D cy cX11_firstOf RX11 2 (some .int)) (hE : s.heap.size + 0 ≤ b + G.2.2) (h : f_X11_firstOf G v0 Q S) : J p l e rm_X11_firstOf s m args below meth c b D cy 2 (zI b D cy below args s G Q) 0 0 G S 0 [(0, .int v0)] [] := by
  unfold f_X11_firstOf at h
  refine jB C [(.iconst 0, 1, 0), (.istore_n 1, 1, 0)] 2 [(1, .int 0), (0, .int v0)] [] (by decide +kernel) rfl rfl ?_
  refine jSub [1, 0] rfl ?_
  exact j_X11_firstOf_2 C hE h
theorem ok_X11_firstOf {G : Gm} {v0 : Int32} {S : St} {Q : Int32 → St → Prop} (h : f_X11_firstOf G v0 Q S) : MT yX11_firstOf cX11_firstOf 2 (some .int) rm_X11_firstOf 0 0 (fun b => [.int v0]) G S (QI (fun r G1 S1 => G1 = G ∧ Q r S1)) := MT.ofJ (by decide) (fun b => [(0, .int v0)]) (fun b => rfl) (fun b => Nat.le_of_ble_eq_true rfl) (fun l b D cy p e s m below meth c C hE hn => j_X11_firstOf C hE h)
theorem hd_X11_firstOf : yX11_firstOf.cls ≠ "java/lang/invoke/MethodHandle" ∧ yX11_firstOf.cls ≠ "java/lang/invoke/VarHandle" ∧ (parseMethodDescriptor yX11_firstOf.desc).map (fun d => d.parameters.length) = some 1 := by decide +kernel
def f_X11_reckon_104 (G : Gm) (v0 : Nat) (v2 : Int64) (v4 : Int64) (u0 : Int32) (u1 : Nat) (Q : Int64 → St → Prop) (S : St) : Prop :=
  ((u0 = 0 ∨ u0 = 1) ∧ ∀ S1, S1 = uI S u1 40 u0 → (if (S1.1 v0 40) = 0 then (¬ v4 = 0 ∧ Q (v2 - v2 / v4 * v4) S1) else Q 0 S1))
def f_X11_reckon_72 (G : Gm) (v0 : Nat) (v2 : Int64) (v4 : Int64) (u0 : Int32) (u1 : Nat) (Q : Int64 → St → Prop) (S : St) : Prop :=
  ((u0 = 0 ∨ u0 = 1) ∧ ∀ S1, S1 = uI S u1 40 u0 → (if (S1.1 v0 40) = 0 then (¬ v4 = 0 ∧ Q (v2 / v4) S1) else Q 0 S1))
def f_X11_reckon (G : Gm) (v0 : Nat) (v1 : Int32) (v2 : Int64) (v4 : Int64) (Q : Int64 → St → Prop) (S : St) : Prop :=
  (if v1 = 20 then Q (v2 + v4) S else (if v1 = 21 then Q (v2 - v4) S else (if v1 = 22 then Q (v2 * v4) S else (if v1 = 23 then (if (lg_cmp v4 0) = 0 then f_X11_reckon_72 G v0 v2 v4 1 v0 Q S else f_X11_reckon_72 G v0 v2 v4 0 v0 Q S) else (if v1 = 24 then (if (lg_cmp v4 0) = 0 then f_X11_reckon_104 G v0 v2 v4 1 v0 Q S else f_X11_reckon_104 G v0 v2 v4 0 v0 Q S) else (if v1 = 25 then (if 0 ≤ (lg_cmp v2 v4) then Q 0 S else Q 1 S) else (if v1 = 26 then (if (lg_cmp v2 v4) ≤ 0 then Q 0 S else Q 1 S) else (if (lg_cmp v2 v4) = 0 then Q 1 S else Q 0 S))))))))
abbrev rm_X11_reckon : Room := { frames := 0, cells := 0, slots := 0, locals := 0 }
set_option maxHeartbeats 4000000 in
set_option maxRecDepth 100000 in
theorem j_X11_reckon_104 {p : Program} {l : Launch} {e : Env} {s : State} {m : MethodId} {args : Array Value} {below : List Frame} {meth : Method} {c : Code} {b : Nat} {D : va_G} {cy : Nat → ClassId} {G : Gm} {v0 : Nat} {v2 : Int64} {v4 : Int64} {u0 : Int32} {u1 : Nat} {S : St} {Q : Int64 → St → Prop} (C : CX p s m args meth c b D cy cX11_reckon RX11 6 (some .long)) (hE : s.heap.size + 0 ≤ b + G.2.2) (t_v0 : ok G 10 v0) (t_u1 : ok G 10 u1) (h : f_X11_reckon_104 G v0 v2 v4 u0 u1 Q S) : J p l e rm_X11_reckon s m args below meth c b D cy 6 (zL b D cy below args s G Q) 0 0 G S 104 [(0, .ref (b + v0)), (2, .long v2), (4, .long v4)] [.int u0, .ref (b + u1)] := by
  unfold f_X11_reckon_104 at h
  obtain ⟨z4, h⟩ := h
  refine jPutI C 107 (by decide +kernel : decode cX11_reckon 104 = .ok (.putfield 419, 3)) rfl hE t_u1 kX11 40 (by decide) rfl rfl (by decide) rfl wd_1194 rfl (nbZ z4) (fbZ z4) ?_
  refine jTopS (fun S1 e_S1 => ?_)
  have h := h S1 e_S1
  refine jB C [(.aload_n 0, 1, 0)] 108 [(0, .ref (b + v0)), (2, .long v2), (4, .long v4)] [.ref (b + v0)] (by decide +kernel) rfl rfl ?_
  refine jGetI C 111 (by decide +kernel : decode cX11_reckon 108 = .ok (.getfield 419, 3)) rfl t_v0 kX11 40 (by decide) rfl rfl (by decide) wd_1194 ?_
  refine jIf_eq C 114 118 (by decide +kernel : decode cX11_reckon 111 = .ok (.ifCond .eq 7, 3)) rfl rfl (fun c2 => ?_) (fun c2 => ?_)
  · have h := it1 h c2
    refine jB C [(.lload_n 2, 1, 0), (.lload 4, 2, 0)] 121 [(0, .ref (b + v0)), (2, .long v2), (4, .long v4)] [.long v4, .long v2] (by decide +kernel) rfl rfl ?_
    obtain ⟨y3, h⟩ := h
    refine jLrem C 122 (by decide +kernel : decode cX11_reckon 121 = .ok (.lrem, 1)) rfl y3 ?_
    exact jRetL C (by decide +kernel : decode cX11_reckon 122 = .ok (.lreturn, 1)) (Nat.le_refl _) (Nat.le_refl _) ⟨rfl, h⟩
  · have h := it2 h c2
    refine jB C [(.lconst 0, 1, 0)] 115 [(0, .ref (b + v0)), (2, .long v2), (4, .long v4)] [.long 0] (by decide +kernel) rfl rfl ?_
    refine jGoto C 122 (by decide +kernel : decode cX11_reckon 115 = .ok (.goto 7, 3)) rfl ?_
    exact jRetL C (by decide +kernel : decode cX11_reckon 122 = .ok (.lreturn, 1)) (Nat.le_refl _) (Nat.le_refl _) ⟨rfl, h⟩
set_option maxHeartbeats 4000000 in
set_option maxRecDepth 100000 in
theorem j_X11_reckon_72 {p : Program} {l : Launch} {e : Env} {s : State} {m : MethodId} {args : Array Value} {below : List Frame} {meth : Method} {c : Code} {b : Nat} {D : va_G} {cy : Nat → ClassId} {G : Gm} {v0 : Nat} {v2 : Int64} {v4 : Int64} {u0 : Int32} {u1 : Nat} {S : St} {Q : Int64 → St → Prop} (C : CX p s m args meth c b D cy cX11_reckon RX11 6 (some .long)) (hE : s.heap.size + 0 ≤ b + G.2.2) (t_v0 : ok G 10 v0) (t_u1 : ok G 10 u1) (h : f_X11_reckon_72 G v0 v2 v4 u0 u1 Q S) : J p l e rm_X11_reckon s m args below meth c b D cy 6 (zL b D cy below args s G Q) 0 0 G S 72 [(0, .ref (b + v0)), (2, .long v2), (4, .long v4)] [.int u0, .ref (b + u1)] := by
  unfold f_X11_reckon_72 at h
  obtain ⟨z4, h⟩ := h
  refine jPutI C 75 (by decide +kernel : decode cX11_reckon 72 = .ok (.putfield 419, 3)) rfl hE t_u1 kX11 40 (by decide) rfl rfl (by decide) rfl wd_1194 rfl (nbZ z4) (fbZ z4) ?_
  refine jTopS (fun S1 e_S1 => ?_)
  have h := h S1 e_S1
  refine jB C [(.aload_n 0, 1, 0)] 76 [(0, .ref (b + v0)), (2, .long v2), (4, .long v4)] [.ref (b + v0)] (by decide +kernel) rfl rfl ?_
  refine jGetI C 79 (by decide +kernel : decode cX11_reckon 76 = .ok (.getfield 419, 3)) rfl t_v0 kX11 40 (by decide) rfl rfl (by decide) wd_1194 ?_
  refine jIf_eq C 82 86 (by decide +kernel : decode cX11_reckon 79 = .ok (.ifCond .eq 7, 3)) rfl rfl (fun c2 => ?_) (fun c2 => ?_)
  · have h := it1 h c2
    refine jB C [(.lload_n 2, 1, 0), (.lload 4, 2, 0)] 89 [(0, .ref (b + v0)), (2, .long v2), (4, .long v4)] [.long v4, .long v2] (by decide +kernel) rfl rfl ?_
    obtain ⟨y3, h⟩ := h
    refine jLdiv C 90 (by decide +kernel : decode cX11_reckon 89 = .ok (.ldiv, 1)) rfl y3 ?_
    exact jRetL C (by decide +kernel : decode cX11_reckon 90 = .ok (.lreturn, 1)) (Nat.le_refl _) (Nat.le_refl _) ⟨rfl, h⟩
  · have h := it2 h c2
    refine jB C [(.lconst 0, 1, 0)] 83 [(0, .ref (b + v0)), (2, .long v2), (4, .long v4)] [.long 0] (by decide +kernel) rfl rfl ?_
    refine jGoto C 90 (by decide +kernel : decode cX11_reckon 83 = .ok (.goto 7, 3)) rfl ?_
    exact jRetL C (by decide +kernel : decode cX11_reckon 90 = .ok (.lreturn, 1)) (Nat.le_refl _) (Nat.le_refl _) ⟨rfl, h⟩
set_option maxHeartbeats 4000000 in
set_option maxRecDepth 100000 in
theorem j_X11_reckon {p : Program} {l : Launch} {e : Env} {s : State} {m : MethodId} {args : Array Value} {below : List Frame} {meth : Method} {c : Code} {b : Nat} {D : va_G} {cy : Nat → ClassId} {G : Gm} {v0 : Nat} {v1 : Int32} {v2 : Int64} {v4 : Int64} {S : St} {Q : Int64 → St → Prop} (C : CX p s m args meth c b D cy cX11_reckon RX11 6 (some .long)) (hE : s.heap.size + 0 ≤ b + G.2.2) (t_v0 : ok G 10 v0) (h : f_X11_reckon G v0 v1 v2 v4 Q S) : J p l e rm_X11_reckon s m args below meth c b D cy 6 (zL b D cy below args s G Q) 0 0 G S 0 [(0, .ref (b + v0)), (1, .int v1), (2, .long v2), (4, .long v4)] [] := by
  unfold f_X11_reckon at h
  refine jB C [(.iload_n 1, 1, 0)] 1 [(0, .ref (b + v0)), (1, .int v1), (2, .long v2), (4, .long v4)] [.int v1] (by decide +kernel) rfl rfl ?_
  by_cases c6_0 : v1 = 20
  · have h := it1 h c6_0
    refine jTabIn C 44 20 (by decide +kernel : decode cX11_reckon 1 = .ok (.tableswitch 148 20 26 #[43, 48, 53, 58, 90, 122, 135], 43)) c6_0 ⟨rfl, rfl, rfl, rfl⟩ ?_
    refine jB C [(.lload_n 2, 1, 0), (.lload 4, 2, 0), (.ladd, 1, 0)] 48 [(0, .ref (b + v0)), (1, .int v1), (2, .long v2), (4, .long v4)] [.long (v2 + v4)] (by decide +kernel) rfl rfl ?_
    exact jRetL C (by decide +kernel : decode cX11_reckon 48 = .ok (.lreturn, 1)) (Nat.le_refl _) (Nat.le_refl _) ⟨rfl, h⟩
  · have h := it2 h c6_0
    by_cases c6_1 : v1 = 21
    · have h := it1 h c6_1
      refine jTabIn C 49 21 (by decide +kernel : decode cX11_reckon 1 = .ok (.tableswitch 148 20 26 #[43, 48, 53, 58, 90, 122, 135], 43)) c6_1 ⟨rfl, rfl, rfl, rfl⟩ ?_
      refine jB C [(.lload_n 2, 1, 0), (.lload 4, 2, 0), (.lsub, 1, 0)] 53 [(0, .ref (b + v0)), (1, .int v1), (2, .long v2), (4, .long v4)] [.long (v2 - v4)] (by decide +kernel) rfl rfl ?_
      exact jRetL C (by decide +kernel : decode cX11_reckon 53 = .ok (.lreturn, 1)) (Nat.le_refl _) (Nat.le_refl _) ⟨rfl, h⟩
    · have h := it2 h c6_1
      by_cases c6_2 : v1 = 22
      · have h := it1 h c6_2
        refine jTabIn C 54 22 (by decide +kernel : decode cX11_reckon 1 = .ok (.tableswitch 148 20 26 #[43, 48, 53, 58, 90, 122, 135], 43)) c6_2 ⟨rfl, rfl, rfl, rfl⟩ ?_
        refine jB C [(.lload_n 2, 1, 0), (.lload 4, 2, 0), (.lmul, 1, 0)] 58 [(0, .ref (b + v0)), (1, .int v1), (2, .long v2), (4, .long v4)] [.long (v2 * v4)] (by decide +kernel) rfl rfl ?_
        exact jRetL C (by decide +kernel : decode cX11_reckon 58 = .ok (.lreturn, 1)) (Nat.le_refl _) (Nat.le_refl _) ⟨rfl, h⟩
      · have h := it2 h c6_2
        by_cases c6_3 : v1 = 23
        · have h := it1 h c6_3
          refine jTabIn C 59 23 (by decide +kernel : decode cX11_reckon 1 = .ok (.tableswitch 148 20 26 #[43, 48, 53, 58, 90, 122, 135], 43)) c6_3 ⟨rfl, rfl, rfl, rfl⟩ ?_
          refine jB C [(.aload_n 0, 1, 0), (.lload 4, 2, 0), (.lconst 0, 1, 0), (.lcmp, 1, 0)] 64 [(0, .ref (b + v0)), (1, .int v1), (2, .long v2), (4, .long v4)] [.int (lg_cmp v4 0), .ref (b + v0)] (by decide +kernel) rfl rfl ?_
          refine jIf_ne C 67 71 (by decide +kernel : decode cX11_reckon 64 = .ok (.ifCond .ne 7, 3)) rfl rfl (fun c1 => ?_) (fun c1 => ?_)
          · have h := it2 h c1
            refine jB C [(.iconst 0, 1, 0)] 72 [(0, .ref (b + v0)), (1, .int v1), (2, .long v2), (4, .long v4)] [.int 0, .ref (b + v0)] (by decide +kernel) rfl rfl ?_
            refine jSub [0, 2, 3] rfl ?_
            exact j_X11_reckon_72 C hE t_v0 t_v0 h
          · have h := it1 h c1
            refine jB C [(.iconst 1, 1, 1)] 68 [(0, .ref (b + v0)), (1, .int v1), (2, .long v2), (4, .long v4)] [.int 1, .ref (b + v0)] (by decide +kernel) rfl rfl ?_
            refine jGoto C 72 (by decide +kernel : decode cX11_reckon 68 = .ok (.goto 4, 3)) rfl ?_
            refine jSub [0, 2, 3] rfl ?_
            exact j_X11_reckon_72 C hE t_v0 t_v0 h
        · have h := it2 h c6_3
          by_cases c6_4 : v1 = 24
          · have h := it1 h c6_4
            refine jTabIn C 91 24 (by decide +kernel : decode cX11_reckon 1 = .ok (.tableswitch 148 20 26 #[43, 48, 53, 58, 90, 122, 135], 43)) c6_4 ⟨rfl, rfl, rfl, rfl⟩ ?_
            refine jB C [(.aload_n 0, 1, 0), (.lload 4, 2, 0), (.lconst 0, 1, 0), (.lcmp, 1, 0)] 96 [(0, .ref (b + v0)), (1, .int v1), (2, .long v2), (4, .long v4)] [.int (lg_cmp v4 0), .ref (b + v0)] (by decide +kernel) rfl rfl ?_
            refine jIf_ne C 99 103 (by decide +kernel : decode cX11_reckon 96 = .ok (.ifCond .ne 7, 3)) rfl rfl (fun c2 => ?_) (fun c2 => ?_)
            · have h := it2 h c2
              refine jB C [(.iconst 0, 1, 0)] 104 [(0, .ref (b + v0)), (1, .int v1), (2, .long v2), (4, .long v4)] [.int 0, .ref (b + v0)] (by decide +kernel) rfl rfl ?_
              refine jSub [0, 2, 3] rfl ?_
              exact j_X11_reckon_104 C hE t_v0 t_v0 h
            · have h := it1 h c2
              refine jB C [(.iconst 1, 1, 1)] 100 [(0, .ref (b + v0)), (1, .int v1), (2, .long v2), (4, .long v4)] [.int 1, .ref (b + v0)] (by decide +kernel) rfl rfl ?_
              refine jGoto C 104 (by decide +kernel : decode cX11_reckon 100 = .ok (.goto 4, 3)) rfl ?_
              refine jSub [0, 2, 3] rfl ?_
              exact j_X11_reckon_104 C hE t_v0 t_v0 h
          · have h := it2 h c6_4
            by_cases c6_5 : v1 = 25
            · have h := it1 h c6_5
              refine jTabIn C 123 25 (by decide +kernel : decode cX11_reckon 1 = .ok (.tableswitch 148 20 26 #[43, 48, 53, 58, 90, 122, 135], 43)) c6_5 ⟨rfl, rfl, rfl, rfl⟩ ?_
              refine jB C [(.lload_n 2, 1, 0), (.lload 4, 2, 0), (.lcmp, 1, 0)] 127 [(0, .ref (b + v0)), (1, .int v1), (2, .long v2), (4, .long v4)] [.int (lg_cmp v2 v4)] (by decide +kernel) rfl rfl ?_
              refine jIf_ge C 130 134 (by decide +kernel : decode cX11_reckon 127 = .ok (.ifCond .ge 7, 3)) rfl rfl (fun c3 => ?_) (fun c3 => ?_)
              · have h := it1 h c3
                refine jB C [(.lconst 0, 1, 0)] 135 [(0, .ref (b + v0)), (1, .int v1), (2, .long v2), (4, .long v4)] [.long 0] (by decide +kernel) rfl rfl ?_
                exact jRetL C (by decide +kernel : decode cX11_reckon 135 = .ok (.lreturn, 1)) (Nat.le_refl _) (Nat.le_refl _) ⟨rfl, h⟩
              · have h := it2 h c3
                refine jB C [(.lconst 1, 1, 0)] 131 [(0, .ref (b + v0)), (1, .int v1), (2, .long v2), (4, .long v4)] [.long 1] (by decide +kernel) rfl rfl ?_
                refine jGoto C 135 (by decide +kernel : decode cX11_reckon 131 = .ok (.goto 4, 3)) rfl ?_
                exact jRetL C (by decide +kernel : decode cX11_reckon 135 = .ok (.lreturn, 1)) (Nat.le_refl _) (Nat.le_refl _) ⟨rfl, h⟩
            · have h := it2 h c6_5
              by_cases c6_6 : v1 = 26
              · have h := it1 h c6_6
                refine jTabIn C 136 26 (by decide +kernel : decode cX11_reckon 1 = .ok (.tableswitch 148 20 26 #[43, 48, 53, 58, 90, 122, 135], 43)) c6_6 ⟨rfl, rfl, rfl, rfl⟩ ?_
                refine jB C [(.lload_n 2, 1, 0), (.lload 4, 2, 0), (.lcmp, 1, 0)] 140 [(0, .ref (b + v0)), (1, .int v1), (2, .long v2), (4, .long v4)] [.int (lg_cmp v2 v4)] (by decide +kernel) rfl rfl ?_
                refine jIf_le C 143 147 (by decide +kernel : decode cX11_reckon 140 = .ok (.ifCond .le 7, 3)) rfl rfl (fun c4 => ?_) (fun c4 => ?_)
                · have h := it1 h c4
                  refine jB C [(.lconst 0, 1, 0)] 148 [(0, .ref (b + v0)), (1, .int v1), (2, .long v2), (4, .long v4)] [.long 0] (by decide +kernel) rfl rfl ?_
                  exact jRetL C (by decide +kernel : decode cX11_reckon 148 = .ok (.lreturn, 1)) (Nat.le_refl _) (Nat.le_refl _) ⟨rfl, h⟩
                · have h := it2 h c4
                  refine jB C [(.lconst 1, 1, 0)] 144 [(0, .ref (b + v0)), (1, .int v1), (2, .long v2), (4, .long v4)] [.long 1] (by decide +kernel) rfl rfl ?_
                  refine jGoto C 148 (by decide +kernel : decode cX11_reckon 144 = .ok (.goto 4, 3)) rfl ?_
                  exact jRetL C (by decide +kernel : decode cX11_reckon 148 = .ok (.lreturn, 1)) (Nat.le_refl _) (Nat.le_refl _) ⟨rfl, h⟩
              · have h := it2 h c6_6
                refine jTabOut C 149 (by decide +kernel : decode cX11_reckon 1 = .ok (.tableswitch 148 20 26 #[43, 48, 53, 58, 90, 122, 135], 43)) rfl (by have := lv_neT c6_0 (a := 20) rfl; have := lv_neT c6_1 (a := 21) rfl; have := lv_neT c6_2 (a := 22) rfl; have := lv_neT c6_3 (a := 23) rfl; have := lv_neT c6_4 (a := 24) rfl; have := lv_neT c6_5 (a := 25) rfl; have := lv_neT c6_6 (a := 26) rfl; omega) ?_
                refine jB C [(.lload_n 2, 1, 0), (.lload 4, 2, 0), (.lcmp, 1, 0)] 153 [(0, .ref (b + v0)), (1, .int v1), (2, .long v2), (4, .long v4)] [.int (lg_cmp v2 v4)] (by decide +kernel) rfl rfl ?_
                refine jIf_ne C 156 160 (by decide +kernel : decode cX11_reckon 153 = .ok (.ifCond .ne 7, 3)) rfl rfl (fun c5 => ?_) (fun c5 => ?_)
                · have h := it2 h c5
                  refine jB C [(.lconst 0, 1, 0)] 161 [(0, .ref (b + v0)), (1, .int v1), (2, .long v2), (4, .long v4)] [.long 0] (by decide +kernel) rfl rfl ?_
                  exact jRetL C (by decide +kernel : decode cX11_reckon 161 = .ok (.lreturn, 1)) (Nat.le_refl _) (Nat.le_refl _) ⟨rfl, h⟩
                · have h := it1 h c5
                  refine jB C [(.lconst 1, 1, 0)] 157 [(0, .ref (b + v0)), (1, .int v1), (2, .long v2), (4, .long v4)] [.long 1] (by decide +kernel) rfl rfl ?_
                  refine jGoto C 161 (by decide +kernel : decode cX11_reckon 157 = .ok (.goto 4, 3)) rfl ?_
                  exact jRetL C (by decide +kernel : decode cX11_reckon 161 = .ok (.lreturn, 1)) (Nat.le_refl _) (Nat.le_refl _) ⟨rfl, h⟩
theorem ok_X11_reckon {G : Gm} {v0 : Nat} {v1 : Int32} {v2 : Int64} {v4 : Int64} {S : St} {Q : Int64 → St → Prop} (t_v0 : ok G 10 v0) (h : f_X11_reckon G v0 v1 v2 v4 Q S) : MT yX11_reckon cX11_reckon 6 (some .long) rm_X11_reckon 0 0 (fun b => [.ref (b + v0), .int v1, .long v2, .long v4]) G S (QL (fun r G1 S1 => G1 = G ∧ Q r S1)) := MT.ofJ (by decide) (fun b => [(0, .ref (b + v0)), (1, .int v1), (2, .long v2), (4, .long v4)]) (fun b => rfl) (fun b => Nat.le_of_ble_eq_true rfl) (fun l b D cy p e s m below meth c C hE hn => j_X11_reckon C hE t_v0 h)
theorem hd_X11_reckon : yX11_reckon.cls ≠ "java/lang/invoke/MethodHandle" ∧ yX11_reckon.cls ≠ "java/lang/invoke/VarHandle" ∧ (parseMethodDescriptor yX11_reckon.desc).map (fun d => d.parameters.length) = some 3 := by decide +kernel
def f_X11_reckonAll_376 (G : Gm) (u0 : Int64) (u1 : Nat) (Q : St → Prop) (S : St) : Prop :=
  (∀ S1, S1 = uJ S u1 41 u0 → Q S1)
def f_X11_reckonAll_361 (G : Gm) (v0 : Nat) (v3 : Int32) (Q : St → Prop) (S : St) : Prop :=
  (if v3 ≤ 0 then f_X11_reckonAll_376 G 0 v0 Q S else (∃ a2, S.2.2 v0 39 = some a2 ∧ (vp_in 0 (G.2.1 a2) ∧ f_X11_reckonAll_376 G (S.2.1 a2 0.toNatClampNeg) v0 Q S)))
def f_X11_reckonAll_344 (G : Gm) (k10 : Int32 → Int32 → St → Prop) (v0 : Nat) (v2 : Int32) (v3 : Int32) (v4 : Int32) (v6 : Int32) (u0 : Int64) (u1 : Int64) (Q : St → Prop) (S : St) : Prop :=
  (if (lg_cmp u1 u0) = 0 then k10 v3 v6 S else k10 (v3 + (-1)) v4 S)
def f_X11_reckonAll_290 (G : Gm) (k10 : Int32 → Int32 → St → Prop) (v0 : Nat) (v2 : Int32) (v3 : Int32) (v4 : Int32) (u0 : Int32) (u1 : Nat) (Q : St → Prop) (S : St) : Prop :=
  ((u0 = 0 ∨ u0 = 1) ∧ ∀ S1, S1 = uI S u1 40 u0 → k10 v3 v4 S1)
def f_X11_reckonAll_285 (G : Gm) (k10 : Int32 → Int32 → St → Prop) (v0 : Nat) (v2 : Int32) (v3 : Int32) (v4 : Int32) (u0 : Nat) (Q : St → Prop) (S : St) : Prop :=
  f_X11_reckonAll_290 G k10 v0 v2 v3 v4 1 u0 Q S
def f_X11_reckonAll_212 (G : Gm) (k10 : Int32 → Int32 → St → Prop) (v0 : Nat) (v2 : Int32) (v3 : Int32) (v4 : Int32) (u0 : Int64) (u1 : Int32) (u2 : Nat) (Q : St → Prop) (S : St) : Prop :=
  (vp_in u1 (G.2.1 u2) ∧ ∀ S2, S2 = uJ S u2 u1.toNatClampNeg u0 → k10 (v3 + 1) v4 S2)
def f_X11_reckonAll_95 (G : Gm) (k10 : Int32 → Int32 → St → Prop) (v0 : Nat) (v2 : Int32) (v3 : Int32) (v4 : Int32) (v5 : Int32) (u0 : Int32) (Q : St → Prop) (S : St) : Prop :=
  (if 20 ≤ v5 then (if 28 ≤ v5 then (if v5 = 28 then (∃ a7, S.2.2 v0 39 = some a7 ∧ (∃ a8, S.2.2 v0 39 = some a8 ∧ (vp_in (v3 - 1) (G.2.1 a8) ∧ (vp_in (v3 - 1) (G.2.1 a7) ∧ ∀ S11, S11 = uJ S a7 (v3 - 1).toNatClampNeg (1 - (S.2.1 a8 (v3 - 1).toNatClampNeg)) → k10 v3 (v4 + 1) S11)))) else (∃ a4, S.2.2 v0 39 = some a4 ∧ (vp_in (v3 - 1) (G.2.1 a4) ∧ (if v5 = 29 then f_X11_reckonAll_344 G k10 v0 v2 v3 (v4 + 1) u0 0 (S.2.1 a4 (v3 - 1).toNatClampNeg) Q S else f_X11_reckonAll_344 G k10 v0 v2 v3 (v4 + 1) u0 1 (S.2.1 a4 (v3 - 1).toNatClampNeg) Q S)))) else (∃ a12, S.2.2 v0 39 = some a12 ∧ (∃ a13, S.2.2 v0 39 = some a13 ∧ (vp_in ((v3 + (-1)) - 1) (G.2.1 a13) ∧ (∃ a15, S.2.2 v0 39 = some a15 ∧ (vp_in (v3 + (-1)) (G.2.1 a15) ∧ f_X11_reckon G v0 v5 (S.2.1 a13 ((v3 + (-1)) - 1).toNatClampNeg) (S.2.1 a15 (v3 + (-1)).toNatClampNeg) (fun r18 S17 => (vp_in ((v3 + (-1)) - 1) (G.2.1 a12) ∧ ∀ S20, S20 = uJ S17 a12 ((v3 + (-1)) - 1).toNatClampNeg r18 → (if (S20.1 v0 40) = 0 then (∃ a22, S20.2.2 v0 39 = some a22 ∧ (vp_in ((v3 + (-1)) - 1) (G.2.1 a22) ∧ f_X11_in G (S20.2.1 a22 ((v3 + (-1)) - 1).toNatClampNeg) (-1000000000) 1000000000 (fun r25 S24 => (if r25 = 0 then f_X11_reckonAll_285 G k10 v0 v2 (v3 + (-1)) (v4 + 1) v0 Q S24 else f_X11_reckonAll_290 G k10 v0 v2 (v3 + (-1)) (v4 + 1) 0 v0 Q S24)) S20)) else f_X11_reckonAll_285 G k10 v0 v2 (v3 + (-1)) (v4 + 1) v0 Q S20))) S)))))) else (∃ a27, S.2.2 v0 39 = some a27 ∧ (if v5 = 0 then f_X11_reckonAll_212 G k10 v0 v2 v3 (v4 + 1) u0.toInt64 v3 a27 Q S else (if (S.1 v0 21) = 0 then (∃ a44, S.2.2 v0 36 = some a44 ∧ (vp_in v5 (G.2.1 a44) ∧ f_X11_reckonAll_212 G k10 v0 v2 v3 (v4 + 1) (S.2.1 a44 v5.toNatClampNeg) v3 a27 Q S)) else (if 5 ≤ v5 then f_X11_isPerson G v0 u0 (fun r32 S31 => (if r32 = 0 then f_X11_reckonAll_212 G k10 v0 v2 v3 (v4 + 1) (-1) v3 a27 Q S31 else (if v5 = 5 then f_X11_sinsOf G v0 u0 (fun r41 S40 => f_X11_reckonAll_212 G k10 v0 v2 v3 (v4 + 1) r41.toInt64 v3 a27 Q S40) S31 else (if v5 = 6 then f_X11_sightOf G v0 u0 (fun r39 S38 => f_X11_reckonAll_212 G k10 v0 v2 v3 (v4 + 1) r39.toInt64 v3 a27 Q S38) S31 else (∃ a36, S31.2.2 v0 38 = some a36 ∧ (vp_in u0 (G.2.1 a36) ∧ f_X11_reckonAll_212 G k10 v0 v2 v3 (v4 + 1) ((S31.1 a36 u0.toNatClampNeg).toInt64) v3 a27 Q S31)))))) S else (∃ a42, S.2.2 v0 37 = some a42 ∧ (vp_in v5 (G.2.1 a42) ∧ f_X11_reckonAll_212 G k10 v0 v2 v3 (v4 + 1) (S.2.1 a42 v5.toNatClampNeg) v3 a27 Q S)))))))
def f_X11_reckonAll_57 (G : Gm) (k10 : Int32 → Int32 → St → Prop) (v0 : Nat) (v2 : Int32) (v3 : Int32) (v4 : Int32) (u0 : Int32) (Q : St → Prop) (S : St) : Prop :=
  (if (S.1 v0 21) = 0 then (∃ a2, S.2.2 v0 4 = some a2 ∧ (vp_in ((((S.1 v0 35) + 98) + (2 * v4)) + 1) (G.2.1 a2) ∧ f_X11_reckonAll_95 G k10 v0 v2 v3 v4 u0 (S.1 a2 ((((S.1 v0 35) + 98) + (2 * v4)) + 1).toNatClampNeg) Q S)) else (∃ a4, S.2.2 v0 26 = some a4 ∧ (vp_in v4 (G.2.1 a4) ∧ f_X11_reckonAll_95 G k10 v0 v2 v3 v4 u0 (S.1 a4 v4.toNatClampNeg) Q S)))
def f_X11_reckonAll_10_n (G : Gm) (v0 : Nat) (v2 : Int32) (Q : St → Prop) : Nat → Int32 → Int32 → St → Prop
  | 0, _, _, _ => False
  | n + 1, v3, v4, S => (if v2 ≤ v4 then f_X11_reckonAll_361 G v0 v3 Q S else (if (S.1 v0 40) = 0 then (if (S.1 v0 21) = 0 then (∃ a4, S.2.2 v0 4 = some a4 ∧ (vp_in (((S.1 v0 35) + 98) + (2 * v4)) (G.2.1 a4) ∧ f_X11_reckonAll_57 G (f_X11_reckonAll_10_n G v0 v2 Q n) v0 v2 v3 v4 (S.1 a4 (((S.1 v0 35) + 98) + (2 * v4)).toNatClampNeg) Q S)) else (∃ a6, S.2.2 v0 25 = some a6 ∧ (vp_in v4 (G.2.1 a6) ∧ f_X11_reckonAll_57 G (f_X11_reckonAll_10_n G v0 v2 Q n) v0 v2 v3 v4 (S.1 a6 v4.toNatClampNeg) Q S))) else f_X11_reckonAll_361 G v0 v3 Q S))
def f_X11_reckonAll_10 (G : Gm) (v0 : Nat) (v2 : Int32) (Q : St → Prop) (v3 : Int32) (v4 : Int32) (S : St) : Prop := ∃ n, f_X11_reckonAll_10_n G v0 v2 Q n v3 v4 S
def f_X11_reckonAll (G : Gm) (v0 : Nat) (v1 : Int32) (v2 : Int32) (Q : St → Prop) (S : St) : Prop :=
  (∀ S1, S1 = uI S v0 40 0 → f_X11_reckonAll_10 G v0 v2 Q 0 v1 S1)
abbrev rm_X11_reckonAll : Room := { frames := 3, cells := 0, slots := 0, locals := 66 }
set_option maxHeartbeats 4000000 in
set_option maxRecDepth 100000 in
theorem j_X11_reckonAll_376 {p : Program} {l : Launch} {e : Env} {s : State} {m : MethodId} {args : Array Value} {below : List Frame} {meth : Method} {c : Code} {b : Nat} {D : va_G} {cy : Nat → ClassId} {G : Gm} {u0 : Int64} {u1 : Nat} {S : St} {Q : St → Prop} (C : CX p s m args meth c b D cy cX11_reckonAll RX11 7 none) (hE : s.heap.size + 0 ≤ b + G.2.2) (t_u1 : ok G 10 u1) (h : f_X11_reckonAll_376 G u0 u1 Q S) : J p l e rm_X11_reckonAll s m args below meth c b D cy 7 (zV b D cy below args s G Q) 0 0 G S 376 [] [.long u0, .ref (b + u1)] := by
  unfold f_X11_reckonAll_376 at h
  refine jPutJ C 379 (by decide +kernel : decode cX11_reckonAll 376 = .ok (.putfield 436, 3)) rfl hE t_u1 kX11 41 (by decide) rfl rfl (by decide) rfl wd_1195 rfl rfl rfl ?_
  refine jTopS (fun S1 e_S1 => ?_)
  have h := h S1 e_S1
  exact jRetV C (by decide +kernel : decode cX11_reckonAll 379 = .ok (.return_, 1)) (Nat.le_refl _) (Nat.le_refl _) ⟨rfl, h⟩
set_option maxHeartbeats 4000000 in
set_option maxRecDepth 100000 in
theorem j_X11_reckonAll_361 {p : Program} {l : Launch} {e : Env} {s : State} {m : MethodId} {args : Array Value} {below : List Frame} {meth : Method} {c : Code} {b : Nat} {D : va_G} {cy : Nat → ClassId} {G : Gm} {v0 : Nat} {v3 : Int32} {S : St} {Q : St → Prop} (C : CX p s m args meth c b D cy cX11_reckonAll RX11 7 none) (hE : s.heap.size + 0 ≤ b + G.2.2) (t_v0 : ok G 10 v0) (h : f_X11_reckonAll_361 G v0 v3 Q S) : J p l e rm_X11_reckonAll s m args below meth c b D cy 7 (zV b D cy below args s G Q) 0 0 G S 361 [(0, .ref (b + v0)), (3, .int v3)] [] := by
  unfold f_X11_reckonAll_361 at h
  refine jB C [(.aload_n 0, 1, 0), (.iload_n 3, 1, 0)] 363 [(0, .ref (b + v0)), (3, .int v3)] [.int v3, .ref (b + v0)] (by decide +kernel) rfl rfl ?_
  refine jIf_le C 366 375 (by decide +kernel : decode cX11_reckonAll 363 = .ok (.ifCond .le 12, 3)) rfl rfl (fun c1 => ?_) (fun c1 => ?_)
  · have h := it1 h c1
    refine jB C [(.lconst 0, 1, 0)] 376 [(0, .ref (b + v0)), (3, .int v3)] [.long 0, .ref (b + v0)] (by decide +kernel) rfl rfl ?_
    refine jSub [] rfl ?_
    exact j_X11_reckonAll_376 C hE t_v0 h
  · have h := it2 h c1
    refine jB C [(.aload_n 0, 1, 0)] 367 [(0, .ref (b + v0)), (3, .int v3)] [.ref (b + v0), .ref (b + v0)] (by decide +kernel) rfl rfl ?_
    obtain ⟨a2, e_a2, h⟩ := h
    refine jGetR C 370 (by decide +kernel : decode cX11_reckonAll 367 = .ok (.getfield 111, 3)) rfl t_v0 kX11 39 (by decide) rfl rfl (by decide) wd_1193 e_a2 rfl (fun t_a2 => ?_)
    refine jB C [(.iconst 0, 1, 0)] 371 [(0, .ref (b + v0)), (3, .int v3)] [.int 0, .ref (b + a2), .ref (b + v0)] (by decide +kernel) rfl rfl ?_
    obtain ⟨y3, h⟩ := h
    refine jLald C 372 (by decide +kernel : decode cX11_reckonAll 371 = .ok (.laload, 1)) rfl t_a2 y3 ?_
    refine jGoto C 376 (by decide +kernel : decode cX11_reckonAll 372 = .ok (.goto 4, 3)) rfl ?_
    refine jSub [] rfl ?_
    exact j_X11_reckonAll_376 C hE t_v0 h
set_option maxHeartbeats 4000000 in
set_option maxRecDepth 100000 in
theorem j_X11_reckonAll_344 {p : Program} {l : Launch} {e : Env} {s : State} {m : MethodId} {args : Array Value} {below : List Frame} {meth : Method} {c : Code} {b : Nat} {D : va_G} {cy : Nat → ClassId} {G : Gm} {k10 : Int32 → Int32 → St → Prop} {v0 : Nat} {v2 : Int32} {v3 : Int32} {v4 : Int32} {v6 : Int32} {u0 : Int64} {u1 : Int64} {S : St} {Q : St → Prop} (C : CX p s m args meth c b D cy cX11_reckonAll RX11 7 none) (hE : s.heap.size + 0 ≤ b + G.2.2) (t_v0 : ok G 10 v0) (hk10 : ∀ v3' v4' S, k10 v3' v4' S → J p l e rm_X11_reckonAll s m args below meth c b D cy 7 (zV b D cy below args s G Q) 0 0 G S 10 [(0, .ref (b + v0)), (2, .int v2), (3, .int (v3')), (4, .int (v4'))] []) (h : f_X11_reckonAll_344 G k10 v0 v2 v3 v4 v6 u0 u1 Q S) : J p l e rm_X11_reckonAll s m args below meth c b D cy 7 (zV b D cy below args s G Q) 0 0 G S 344 [(0, .ref (b + v0)), (2, .int v2), (3, .int v3), (4, .int v4), (6, .int v6)] [.long u0, .long u1] := by
  unfold f_X11_reckonAll_344 at h
  refine jB C [(.lcmp, 1, 0)] 345 [(0, .ref (b + v0)), (2, .int v2), (3, .int v3), (4, .int v4), (6, .int v6)] [.int (lg_cmp u1 u0)] (by decide +kernel) rfl rfl ?_
  refine jIf_ne C 348 355 (by decide +kernel : decode cX11_reckonAll 345 = .ok (.ifCond .ne 10, 3)) rfl rfl (fun c1 => ?_) (fun c1 => ?_)
  · have h := it2 h c1
    refine jB C [(.iinc 3 (-1), 3, (-1))] 358 [(3, .int (v3 + (-1))), (0, .ref (b + v0)), (2, .int v2), (4, .int v4), (6, .int v6)] [] (by decide +kernel) rfl rfl ?_
    refine jGoto C 10 (by decide +kernel : decode cX11_reckonAll 358 = .ok (.goto (-348), 3)) rfl ?_
    refine jSub [1, 2, 0, 3] rfl ?_
    exact hk10 (v3 + (-1)) v4 S h
  · have h := it1 h c1
    refine jB C [(.iload 6, 2, 0), (.istore 4, 2, 0)] 352 [(4, .int v6), (0, .ref (b + v0)), (2, .int v2), (3, .int v3), (6, .int v6)] [] (by decide +kernel) rfl rfl ?_
    refine jGoto C 358 (by decide +kernel : decode cX11_reckonAll 352 = .ok (.goto 6, 3)) rfl ?_
    refine jGoto C 10 (by decide +kernel : decode cX11_reckonAll 358 = .ok (.goto (-348), 3)) rfl ?_
    refine jSub [1, 2, 3, 0] rfl ?_
    exact hk10 v3 v6 S h
set_option maxHeartbeats 4000000 in
set_option maxRecDepth 100000 in
theorem j_X11_reckonAll_290 {p : Program} {l : Launch} {e : Env} {s : State} {m : MethodId} {args : Array Value} {below : List Frame} {meth : Method} {c : Code} {b : Nat} {D : va_G} {cy : Nat → ClassId} {G : Gm} {k10 : Int32 → Int32 → St → Prop} {v0 : Nat} {v2 : Int32} {v3 : Int32} {v4 : Int32} {u0 : Int32} {u1 : Nat} {S : St} {Q : St → Prop} (C : CX p s m args meth c b D cy cX11_reckonAll RX11 7 none) (hE : s.heap.size + 0 ≤ b + G.2.2) (t_v0 : ok G 10 v0) (t_u1 : ok G 10 u1) (hk10 : ∀ v3' v4' S, k10 v3' v4' S → J p l e rm_X11_reckonAll s m args below meth c b D cy 7 (zV b D cy below args s G Q) 0 0 G S 10 [(0, .ref (b + v0)), (2, .int v2), (3, .int (v3')), (4, .int (v4'))] []) (h : f_X11_reckonAll_290 G k10 v0 v2 v3 v4 u0 u1 Q S) : J p l e rm_X11_reckonAll s m args below meth c b D cy 7 (zV b D cy below args s G Q) 0 0 G S 290 [(0, .ref (b + v0)), (2, .int v2), (3, .int v3), (4, .int v4)] [.int u0, .ref (b + u1)] := by
  unfold f_X11_reckonAll_290 at h
  obtain ⟨z2, h⟩ := h
  refine jPutI C 293 (by decide +kernel : decode cX11_reckonAll 290 = .ok (.putfield 419, 3)) rfl hE t_u1 kX11 40 (by decide) rfl rfl (by decide) rfl wd_1194 rfl (nbZ z2) (fbZ z2) ?_
  refine jTopS (fun S1 e_S1 => ?_)
  have h := h S1 e_S1
  refine jGoto C 358 (by decide +kernel : decode cX11_reckonAll 293 = .ok (.goto 65, 3)) rfl ?_
  refine jGoto C 10 (by decide +kernel : decode cX11_reckonAll 358 = .ok (.goto (-348), 3)) rfl ?_
  refine jSub [0, 1, 2, 3] rfl ?_
  exact hk10 v3 v4 S1 h
set_option maxHeartbeats 4000000 in
set_option maxRecDepth 100000 in
theorem j_X11_reckonAll_285 {p : Program} {l : Launch} {e : Env} {s : State} {m : MethodId} {args : Array Value} {below : List Frame} {meth : Method} {c : Code} {b : Nat} {D : va_G} {cy : Nat → ClassId} {G : Gm} {k10 : Int32 → Int32 → St → Prop} {v0 : Nat} {v2 : Int32} {v3 : Int32} {v4 : Int32} {u0 : Nat} {S : St} {Q : St → Prop} (C : CX p s m args meth c b D cy cX11_reckonAll RX11 7 none) (hE : s.heap.size + 0 ≤ b + G.2.2) (t_v0 : ok G 10 v0) (t_u0 : ok G 10 u0) (hk10 : ∀ v3' v4' S, k10 v3' v4' S → J p l e rm_X11_reckonAll s m args below meth c b D cy 7 (zV b D cy below args s G Q) 0 0 G S 10 [(0, .ref (b + v0)), (2, .int v2), (3, .int (v3')), (4, .int (v4'))] []) (h : f_X11_reckonAll_285 G k10 v0 v2 v3 v4 u0 Q S) : J p l e rm_X11_reckonAll s m args below meth c b D cy 7 (zV b D cy below args s G Q) 0 0 G S 285 [(0, .ref (b + v0)), (2, .int v2), (3, .int v3), (4, .int v4)] [.ref (b + u0)] := by
  unfold f_X11_reckonAll_285 at h
  refine jB C [(.iconst 1, 1, 1)] 286 [(0, .ref (b + v0)), (2, .int v2), (3, .int v3), (4, .int v4)] [.int 1, .ref (b + u0)] (by decide +kernel) rfl rfl ?_
  refine jGoto C 290 (by decide +kernel : decode cX11_reckonAll 286 = .ok (.goto 4, 3)) rfl ?_
  refine jSub [0, 1, 2, 3] rfl ?_
  exact j_X11_reckonAll_290 C hE t_v0 t_u0 hk10 h
set_option maxHeartbeats 4000000 in
set_option maxRecDepth 100000 in
theorem j_X11_reckonAll_212 {p : Program} {l : Launch} {e : Env} {s : State} {m : MethodId} {args : Array Value} {below : List Frame} {meth : Method} {c : Code} {b : Nat} {D : va_G} {cy : Nat → ClassId} {G : Gm} {k10 : Int32 → Int32 → St → Prop} {v0 : Nat} {v2 : Int32} {v3 : Int32} {v4 : Int32} {u0 : Int64} {u1 : Int32} {u2 : Nat} {S : St} {Q : St → Prop} (C : CX p s m args meth c b D cy cX11_reckonAll RX11 7 none) (hE : s.heap.size + 0 ≤ b + G.2.2) (t_v0 : ok G 10 v0) (t_u2 : ok G 12 u2) (hk10 : ∀ v3' v4' S, k10 v3' v4' S → J p l e rm_X11_reckonAll s m args below meth c b D cy 7 (zV b D cy below args s G Q) 0 0 G S 10 [(0, .ref (b + v0)), (2, .int v2), (3, .int (v3')), (4, .int (v4'))] []) (h : f_X11_reckonAll_212 G k10 v0 v2 v3 v4 u0 u1 u2 Q S) : J p l e rm_X11_reckonAll s m args below meth c b D cy 7 (zV b D cy below args s G Q) 0 0 G S 212 [(0, .ref (b + v0)), (2, .int v2), (3, .int v3), (4, .int v4)] [.long u0, .int u1, .ref (b + u2)] := by
  unfold f_X11_reckonAll_212 at h
  obtain ⟨y1, h⟩ := h
  refine jLast C 213 (by decide +kernel : decode cX11_reckonAll 212 = .ok (.lastore, 1)) rfl hE t_u2 y1 ?_
  refine jTopS (fun S2 e_S2 => ?_)
  have h := h S2 e_S2
  refine jB C [(.iinc 3 1, 3, 1)] 216 [(3, .int (v3 + 1)), (0, .ref (b + v0)), (2, .int v2), (4, .int v4)] [] (by decide +kernel) rfl rfl ?_
  refine jGoto C 358 (by decide +kernel : decode cX11_reckonAll 216 = .ok (.goto 142, 3)) rfl ?_
  refine jGoto C 10 (by decide +kernel : decode cX11_reckonAll 358 = .ok (.goto (-348), 3)) rfl ?_
  refine jSub [1, 2, 0, 3] rfl ?_
  exact hk10 (v3 + 1) v4 S2 h
set_option maxHeartbeats 4000000 in
set_option maxRecDepth 100000 in
theorem j_X11_reckonAll_95 {p : Program} {l : Launch} {e : Env} {s : State} {m : MethodId} {args : Array Value} {below : List Frame} {meth : Method} {c : Code} {b : Nat} {D : va_G} {cy : Nat → ClassId} {G : Gm} {k10 : Int32 → Int32 → St → Prop} {v0 : Nat} {v2 : Int32} {v3 : Int32} {v4 : Int32} {v5 : Int32} {u0 : Int32} {S : St} {Q : St → Prop} (C : CX p s m args meth c b D cy cX11_reckonAll RX11 7 none) (hE : s.heap.size + 0 ≤ b + G.2.2) (t_v0 : ok G 10 v0) (hk10 : ∀ v3' v4' S, k10 v3' v4' S → J p l e rm_X11_reckonAll s m args below meth c b D cy 7 (zV b D cy below args s G Q) 0 0 G S 10 [(0, .ref (b + v0)), (2, .int v2), (3, .int (v3')), (4, .int (v4'))] []) (h : f_X11_reckonAll_95 G k10 v0 v2 v3 v4 v5 u0 Q S) : J p l e rm_X11_reckonAll s m args below meth c b D cy 7 (zV b D cy below args s G Q) 0 0 G S 95 [(0, .ref (b + v0)), (2, .int v2), (3, .int v3), (4, .int v4), (5, .int v5)] [.int u0] := by
  unfold f_X11_reckonAll_95 at h
  refine jB C [(.istore 6, 2, 0), (.iinc 4 1, 3, 1), (.iload 5, 2, 0), (.bipush 20, 2, 20)] 104 [(4, .int (v4 + 1)), (6, .int u0), (0, .ref (b + v0)), (2, .int v2), (3, .int v3), (5, .int v5)] [.int 20, .int v5] (by decide +kernel) rfl rfl ?_
  refine jIcmp_ge C 107 219 (by decide +kernel : decode cX11_reckonAll 104 = .ok (.if_icmp .ge 115, 3)) rfl rfl (fun c1 => ?_) (fun c1 => ?_)
  · have h := it1 h c1
    refine jB C [(.iload 5, 2, 0), (.bipush 28, 2, 28)] 223 [(4, .int (v4 + 1)), (6, .int u0), (0, .ref (b + v0)), (2, .int v2), (3, .int v3), (5, .int v5)] [.int 28, .int v5] (by decide +kernel) rfl rfl ?_
    refine jIcmp_ge C 226 296 (by decide +kernel : decode cX11_reckonAll 223 = .ok (.if_icmp .ge 73, 3)) rfl rfl (fun c2 => ?_) (fun c2 => ?_)
    · have h := it1 h c2
      refine jB C [(.iload 5, 2, 0), (.bipush 28, 2, 28)] 300 [(4, .int (v4 + 1)), (6, .int u0), (0, .ref (b + v0)), (2, .int v2), (3, .int v3), (5, .int v5)] [.int 28, .int v5] (by decide +kernel) rfl rfl ?_
      refine jIcmp_ne C 303 324 (by decide +kernel : decode cX11_reckonAll 300 = .ok (.if_icmp .ne 24, 3)) rfl rfl (fun c3 => ?_) (fun c3 => ?_)
      · have h := it2 h c3
        refine jB C [(.aload_n 0, 1, 0)] 325 [(4, .int (v4 + 1)), (6, .int u0), (0, .ref (b + v0)), (2, .int v2), (3, .int v3), (5, .int v5)] [.ref (b + v0)] (by decide +kernel) rfl rfl ?_
        obtain ⟨a4, e_a4, h⟩ := h
        refine jGetR C 328 (by decide +kernel : decode cX11_reckonAll 325 = .ok (.getfield 111, 3)) rfl t_v0 kX11 39 (by decide) rfl rfl (by decide) wd_1193 e_a4 rfl (fun t_a4 => ?_)
        refine jB C [(.iload_n 3, 1, 0), (.iconst 1, 1, 1), (.isub, 1, 0)] 331 [(4, .int (v4 + 1)), (6, .int u0), (0, .ref (b + v0)), (2, .int v2), (3, .int v3), (5, .int v5)] [.int (v3 - 1), .ref (b + a4)] (by decide +kernel) rfl rfl ?_
        obtain ⟨y5, h⟩ := h
        refine jLald C 332 (by decide +kernel : decode cX11_reckonAll 331 = .ok (.laload, 1)) rfl t_a4 y5 ?_
        refine jB C [(.iload 5, 2, 0), (.bipush 29, 2, 29)] 336 [(4, .int (v4 + 1)), (6, .int u0), (0, .ref (b + v0)), (2, .int v2), (3, .int v3), (5, .int v5)] [.int 29, .int v5, .long (S.2.1 a4 (v3 - 1).toNatClampNeg)] (by decide +kernel) rfl rfl ?_
        refine jIcmp_ne C 339 343 (by decide +kernel : decode cX11_reckonAll 336 = .ok (.if_icmp .ne 7, 3)) rfl rfl (fun c6 => ?_) (fun c6 => ?_)
        · have h := it2 h c6
          refine jB C [(.lconst 1, 1, 0)] 344 [(4, .int (v4 + 1)), (6, .int u0), (0, .ref (b + v0)), (2, .int v2), (3, .int v3), (5, .int v5)] [.long 1, .long (S.2.1 a4 (v3 - 1).toNatClampNeg)] (by decide +kernel) rfl rfl ?_
          refine jSub [2, 3, 4, 0, 1] rfl ?_
          exact j_X11_reckonAll_344 C hE t_v0 hk10 h
        · have h := it1 h c6
          refine jB C [(.lconst 0, 1, 0)] 340 [(4, .int (v4 + 1)), (6, .int u0), (0, .ref (b + v0)), (2, .int v2), (3, .int v3), (5, .int v5)] [.long 0, .long (S.2.1 a4 (v3 - 1).toNatClampNeg)] (by decide +kernel) rfl rfl ?_
          refine jGoto C 344 (by decide +kernel : decode cX11_reckonAll 340 = .ok (.goto 4, 3)) rfl ?_
          refine jSub [2, 3, 4, 0, 1] rfl ?_
          exact j_X11_reckonAll_344 C hE t_v0 hk10 h
      · have h := it1 h c3
        refine jB C [(.aload_n 0, 1, 0)] 304 [(4, .int (v4 + 1)), (6, .int u0), (0, .ref (b + v0)), (2, .int v2), (3, .int v3), (5, .int v5)] [.ref (b + v0)] (by decide +kernel) rfl rfl ?_
        obtain ⟨a7, e_a7, h⟩ := h
        refine jGetR C 307 (by decide +kernel : decode cX11_reckonAll 304 = .ok (.getfield 111, 3)) rfl t_v0 kX11 39 (by decide) rfl rfl (by decide) wd_1193 e_a7 rfl (fun t_a7 => ?_)
        refine jB C [(.iload_n 3, 1, 0), (.iconst 1, 1, 1), (.isub, 1, 0), (.lconst 1, 1, 0), (.aload_n 0, 1, 0)] 312 [(4, .int (v4 + 1)), (6, .int u0), (0, .ref (b + v0)), (2, .int v2), (3, .int v3), (5, .int v5)] [.ref (b + v0), .long 1, .int (v3 - 1), .ref (b + a7)] (by decide +kernel) rfl rfl ?_
        obtain ⟨a8, e_a8, h⟩ := h
        refine jGetR C 315 (by decide +kernel : decode cX11_reckonAll 312 = .ok (.getfield 111, 3)) rfl t_v0 kX11 39 (by decide) rfl rfl (by decide) wd_1193 e_a8 rfl (fun t_a8 => ?_)
        refine jB C [(.iload_n 3, 1, 0), (.iconst 1, 1, 1), (.isub, 1, 0)] 318 [(4, .int (v4 + 1)), (6, .int u0), (0, .ref (b + v0)), (2, .int v2), (3, .int v3), (5, .int v5)] [.int (v3 - 1), .ref (b + a8), .long 1, .int (v3 - 1), .ref (b + a7)] (by decide +kernel) rfl rfl ?_
        obtain ⟨y9, h⟩ := h
        refine jLald C 319 (by decide +kernel : decode cX11_reckonAll 318 = .ok (.laload, 1)) rfl t_a8 y9 ?_
        refine jB C [(.lsub, 1, 0)] 320 [(4, .int (v4 + 1)), (6, .int u0), (0, .ref (b + v0)), (2, .int v2), (3, .int v3), (5, .int v5)] [.long (1 - (S.2.1 a8 (v3 - 1).toNatClampNeg)), .int (v3 - 1), .ref (b + a7)] (by decide +kernel) rfl rfl ?_
        obtain ⟨y10, h⟩ := h
        refine jLast C 321 (by decide +kernel : decode cX11_reckonAll 320 = .ok (.lastore, 1)) rfl hE t_a7 y10 ?_
        refine jTopS (fun S11 e_S11 => ?_)
        have h := h S11 e_S11
        refine jGoto C 358 (by decide +kernel : decode cX11_reckonAll 321 = .ok (.goto 37, 3)) rfl ?_
        refine jGoto C 10 (by decide +kernel : decode cX11_reckonAll 358 = .ok (.goto (-348), 3)) rfl ?_
        refine jSub [2, 3, 4, 0] rfl ?_
        exact hk10 v3 (v4 + 1) S11 h
    · have h := it2 h c2
      refine jB C [(.iinc 3 (-1), 3, (-1)), (.aload_n 0, 1, 0)] 230 [(3, .int (v3 + (-1))), (4, .int (v4 + 1)), (6, .int u0), (0, .ref (b + v0)), (2, .int v2), (5, .int v5)] [.ref (b + v0)] (by decide +kernel) rfl rfl ?_
      obtain ⟨a12, e_a12, h⟩ := h
      refine jGetR C 233 (by decide +kernel : decode cX11_reckonAll 230 = .ok (.getfield 111, 3)) rfl t_v0 kX11 39 (by decide) rfl rfl (by decide) wd_1193 e_a12 rfl (fun t_a12 => ?_)
      refine jB C [(.iload_n 3, 1, 0), (.iconst 1, 1, 1), (.isub, 1, 0), (.aload_n 0, 1, 0), (.iload 5, 2, 0), (.aload_n 0, 1, 0)] 240 [(3, .int (v3 + (-1))), (4, .int (v4 + 1)), (6, .int u0), (0, .ref (b + v0)), (2, .int v2), (5, .int v5)] [.ref (b + v0), .int v5, .ref (b + v0), .int ((v3 + (-1)) - 1), .ref (b + a12)] (by decide +kernel) rfl rfl ?_
      obtain ⟨a13, e_a13, h⟩ := h
      refine jGetR C 243 (by decide +kernel : decode cX11_reckonAll 240 = .ok (.getfield 111, 3)) rfl t_v0 kX11 39 (by decide) rfl rfl (by decide) wd_1193 e_a13 rfl (fun t_a13 => ?_)
      refine jB C [(.iload_n 3, 1, 0), (.iconst 1, 1, 1), (.isub, 1, 0)] 246 [(3, .int (v3 + (-1))), (4, .int (v4 + 1)), (6, .int u0), (0, .ref (b + v0)), (2, .int v2), (5, .int v5)] [.int ((v3 + (-1)) - 1), .ref (b + a13), .int v5, .ref (b + v0), .int ((v3 + (-1)) - 1), .ref (b + a12)] (by decide +kernel) rfl rfl ?_
      obtain ⟨y14, h⟩ := h
      refine jLald C 247 (by decide +kernel : decode cX11_reckonAll 246 = .ok (.laload, 1)) rfl t_a13 y14 ?_
      refine jB C [(.aload_n 0, 1, 0)] 248 [(3, .int (v3 + (-1))), (4, .int (v4 + 1)), (6, .int u0), (0, .ref (b + v0)), (2, .int v2), (5, .int v5)] [.ref (b + v0), .long (S.2.1 a13 ((v3 + (-1)) - 1).toNatClampNeg), .int v5, .ref (b + v0), .int ((v3 + (-1)) - 1), .ref (b + a12)] (by decide +kernel) rfl rfl ?_
      obtain ⟨a15, e_a15, h⟩ := h
      refine jGetR C 251 (by decide +kernel : decode cX11_reckonAll 248 = .ok (.getfield 111, 3)) rfl t_v0 kX11 39 (by decide) rfl rfl (by decide) wd_1193 e_a15 rfl (fun t_a15 => ?_)
      refine jB C [(.iload_n 3, 1, 0)] 252 [(3, .int (v3 + (-1))), (4, .int (v4 + 1)), (6, .int u0), (0, .ref (b + v0)), (2, .int v2), (5, .int v5)] [.int (v3 + (-1)), .ref (b + a15), .long (S.2.1 a13 ((v3 + (-1)) - 1).toNatClampNeg), .int v5, .ref (b + v0), .int ((v3 + (-1)) - 1), .ref (b + a12)] (by decide +kernel) rfl rfl ?_
      obtain ⟨y16, h⟩ := h
      refine jLald C 253 (by decide +kernel : decode cX11_reckonAll 252 = .ok (.laload, 1)) rfl t_a15 y16 ?_
      refine jcV_L C 256 (rest := [.int ((v3 + (-1)) - 1), .ref (b + a12)]) (ok_X11_reckon t_v0 h) (by decide +kernel : decode cX11_reckonAll 253 = .ok (.invokevirtual 428, 3)) rfl wd_1421 wd_1423 wp_112 wd_12 wd_1424 ⟨rfl, rfl⟩ hd_X11_reckon ⟨Nat.le_of_ble_eq_true rfl, Nat.le_of_ble_eq_true rfl⟩ t_v0 kX11 (by decide) rfl rfl rfl (Nat.le_of_ble_eq_true rfl) ⟨Nat.zero_le _, Nat.zero_le _⟩ (fun r18 S17 h => ?_)
      obtain ⟨y19, h⟩ := h
      refine jLast C 257 (by decide +kernel : decode cX11_reckonAll 256 = .ok (.lastore, 1)) rfl hE t_a12 y19 ?_
      refine jTopS (fun S20 e_S20 => ?_)
      have h := h S20 e_S20
      refine jB C [(.aload_n 0, 1, 0), (.aload_n 0, 1, 0)] 259 [(3, .int (v3 + (-1))), (4, .int (v4 + 1)), (6, .int u0), (0, .ref (b + v0)), (2, .int v2), (5, .int v5)] [.ref (b + v0), .ref (b + v0)] (by decide +kernel) rfl rfl ?_
      refine jGetI C 262 (by decide +kernel : decode cX11_reckonAll 259 = .ok (.getfield 419, 3)) rfl t_v0 kX11 40 (by decide) rfl rfl (by decide) wd_1194 ?_
      refine jIf_ne C 265 285 (by decide +kernel : decode cX11_reckonAll 262 = .ok (.ifCond .ne 23, 3)) rfl rfl (fun c21 => ?_) (fun c21 => ?_)
      · have h := it2 h c21
        refine jSub [3, 4, 0, 1] rfl ?_
        exact j_X11_reckonAll_285 C hE t_v0 t_v0 hk10 h
      · have h := it1 h c21
        refine jB C [(.aload_n 0, 1, 0)] 266 [(3, .int (v3 + (-1))), (4, .int (v4 + 1)), (6, .int u0), (0, .ref (b + v0)), (2, .int v2), (5, .int v5)] [.ref (b + v0), .ref (b + v0)] (by decide +kernel) rfl rfl ?_
        obtain ⟨a22, e_a22, h⟩ := h
        refine jGetR C 269 (by decide +kernel : decode cX11_reckonAll 266 = .ok (.getfield 111, 3)) rfl t_v0 kX11 39 (by decide) rfl rfl (by decide) wd_1193 e_a22 rfl (fun t_a22 => ?_)
        refine jB C [(.iload_n 3, 1, 0), (.iconst 1, 1, 1), (.isub, 1, 0)] 272 [(3, .int (v3 + (-1))), (4, .int (v4 + 1)), (6, .int u0), (0, .ref (b + v0)), (2, .int v2), (5, .int v5)] [.int ((v3 + (-1)) - 1), .ref (b + a22), .ref (b + v0)] (by decide +kernel) rfl rfl ?_
        obtain ⟨y23, h⟩ := h
        refine jLald C 273 (by decide +kernel : decode cX11_reckonAll 272 = .ok (.laload, 1)) rfl t_a22 y23 ?_
        refine jLdc2 C 276 (by decide +kernel : decode cX11_reckonAll 273 = .ok (.ldc2_w 432, 3)) rfl wd_1425 ?_
        refine jLdc2 C 279 (by decide +kernel : decode cX11_reckonAll 276 = .ok (.ldc2_w 434, 3)) rfl wd_1426 ?_
        refine jcS_I C 282 (rest := [.ref (b + v0)]) (ok_X11_in h) (by decide +kernel : decode cX11_reckonAll 279 = .ok (.invokestatic 185, 3)) rfl wd_1352 wd_1353 wd_12 wd_1354 ⟨rfl, rfl⟩ hd_X11_in ⟨Nat.le_of_ble_eq_true rfl, Nat.le_of_ble_eq_true rfl⟩ rfl rfl (Nat.le_of_ble_eq_true rfl) ⟨Nat.zero_le _, Nat.zero_le _⟩ (fun r25 S24 h => ?_)
        refine jIf_ne C 285 289 (by decide +kernel : decode cX11_reckonAll 282 = .ok (.ifCond .ne 7, 3)) rfl rfl (fun c26 => ?_) (fun c26 => ?_)
        · have h := it2 h c26
          refine jB C [(.iconst 0, 1, 0)] 290 [(3, .int (v3 + (-1))), (4, .int (v4 + 1)), (6, .int u0), (0, .ref (b + v0)), (2, .int v2), (5, .int v5)] [.int 0, .ref (b + v0)] (by decide +kernel) rfl rfl ?_
          refine jSub [3, 4, 0, 1] rfl ?_
          exact j_X11_reckonAll_290 C hE t_v0 t_v0 hk10 h
        · have h := it1 h c26
          refine jSub [3, 4, 0, 1] rfl ?_
          exact j_X11_reckonAll_285 C hE t_v0 t_v0 hk10 h
  · have h := it2 h c1
    refine jB C [(.aload_n 0, 1, 0)] 108 [(4, .int (v4 + 1)), (6, .int u0), (0, .ref (b + v0)), (2, .int v2), (3, .int v3), (5, .int v5)] [.ref (b + v0)] (by decide +kernel) rfl rfl ?_
    obtain ⟨a27, e_a27, h⟩ := h
    refine jGetR C 111 (by decide +kernel : decode cX11_reckonAll 108 = .ok (.getfield 111, 3)) rfl t_v0 kX11 39 (by decide) rfl rfl (by decide) wd_1193 e_a27 rfl (fun t_a27 => ?_)
    refine jB C [(.iload_n 3, 1, 0), (.iload 5, 2, 0)] 114 [(4, .int (v4 + 1)), (6, .int u0), (0, .ref (b + v0)), (2, .int v2), (3, .int v3), (5, .int v5)] [.int v5, .int v3, .ref (b + a27)] (by decide +kernel) rfl rfl ?_
    refine jIf_ne C 117 123 (by decide +kernel : decode cX11_reckonAll 114 = .ok (.ifCond .ne 9, 3)) rfl rfl (fun c28 => ?_) (fun c28 => ?_)
    · have h := it2 h c28
      refine jB C [(.aload_n 0, 1, 0)] 124 [(4, .int (v4 + 1)), (6, .int u0), (0, .ref (b + v0)), (2, .int v2), (3, .int v3), (5, .int v5)] [.ref (b + v0), .int v3, .ref (b + a27)] (by decide +kernel) rfl rfl ?_
      refine jGetI C 127 (by decide +kernel : decode cX11_reckonAll 124 = .ok (.getfield 347, 3)) rfl t_v0 kX11 21 (by decide) rfl rfl (by decide) wd_1175 ?_
      refine jIf_ne C 130 140 (by decide +kernel : decode cX11_reckonAll 127 = .ok (.ifCond .ne 13, 3)) rfl rfl (fun c29 => ?_) (fun c29 => ?_)
      · have h := it2 h c29
        refine jB C [(.iload 5, 2, 0), (.iconst 5, 1, 5)] 143 [(4, .int (v4 + 1)), (6, .int u0), (0, .ref (b + v0)), (2, .int v2), (3, .int v3), (5, .int v5)] [.int 5, .int v5, .int v3, .ref (b + a27)] (by decide +kernel) rfl rfl ?_
        refine jIcmp_ge C 146 156 (by decide +kernel : decode cX11_reckonAll 143 = .ok (.if_icmp .ge 13, 3)) rfl rfl (fun c30 => ?_) (fun c30 => ?_)
        · have h := it1 h c30
          refine jB C [(.aload_n 0, 1, 0), (.iload 6, 2, 0)] 159 [(4, .int (v4 + 1)), (6, .int u0), (0, .ref (b + v0)), (2, .int v2), (3, .int v3), (5, .int v5)] [.int u0, .ref (b + v0), .int v3, .ref (b + a27)] (by decide +kernel) rfl rfl ?_
          refine jcV_I C 162 (rest := [.int v3, .ref (b + a27)]) (ok_X11_isPerson t_v0 h) (by decide +kernel : decode cX11_reckonAll 159 = .ok (.invokevirtual 209, 3)) rfl wd_1376 wd_1378 wp_103 wd_12 wd_1379 ⟨rfl, rfl⟩ hd_X11_isPerson ⟨Nat.le_of_ble_eq_true rfl, Nat.le_of_ble_eq_true rfl⟩ t_v0 kX11 (by decide) rfl rfl rfl (Nat.le_of_ble_eq_true rfl) ⟨Nat.zero_le _, Nat.zero_le _⟩ (fun r32 S31 h => ?_)
          refine jIf_ne C 165 171 (by decide +kernel : decode cX11_reckonAll 162 = .ok (.ifCond .ne 9, 3)) rfl rfl (fun c33 => ?_) (fun c33 => ?_)
          · have h := it2 h c33
            refine jB C [(.iload 5, 2, 0), (.iconst 5, 1, 5)] 174 [(4, .int (v4 + 1)), (6, .int u0), (0, .ref (b + v0)), (2, .int v2), (3, .int v3), (5, .int v5)] [.int 5, .int v5, .int v3, .ref (b + a27)] (by decide +kernel) rfl rfl ?_
            refine jIcmp_ne C 177 187 (by decide +kernel : decode cX11_reckonAll 174 = .ok (.if_icmp .ne 13, 3)) rfl rfl (fun c34 => ?_) (fun c34 => ?_)
            · have h := it2 h c34
              refine jB C [(.iload 5, 2, 0), (.bipush 6, 2, 6)] 191 [(4, .int (v4 + 1)), (6, .int u0), (0, .ref (b + v0)), (2, .int v2), (3, .int v3), (5, .int v5)] [.int 6, .int v5, .int v3, .ref (b + a27)] (by decide +kernel) rfl rfl ?_
              refine jIcmp_ne C 194 204 (by decide +kernel : decode cX11_reckonAll 191 = .ok (.if_icmp .ne 13, 3)) rfl rfl (fun c35 => ?_) (fun c35 => ?_)
              · have h := it2 h c35
                refine jB C [(.aload_n 0, 1, 0)] 205 [(4, .int (v4 + 1)), (6, .int u0), (0, .ref (b + v0)), (2, .int v2), (3, .int v3), (5, .int v5)] [.ref (b + v0), .int v3, .ref (b + a27)] (by decide +kernel) rfl rfl ?_
                obtain ⟨a36, e_a36, h⟩ := h
                refine jGetR C 208 (by decide +kernel : decode cX11_reckonAll 205 = .ok (.getfield 108, 3)) rfl t_v0 kX11 38 (by decide) rfl rfl (by decide) wd_1192 e_a36 rfl (fun t_a36 => ?_)
                refine jB C [(.iload 6, 2, 0)] 210 [(4, .int (v4 + 1)), (6, .int u0), (0, .ref (b + v0)), (2, .int v2), (3, .int v3), (5, .int v5)] [.int u0, .ref (b + a36), .int v3, .ref (b + a27)] (by decide +kernel) rfl rfl ?_
                obtain ⟨y37, h⟩ := h
                refine jIald C 211 (by decide +kernel : decode cX11_reckonAll 210 = .ok (.iaload, 1)) rfl t_a36 y37 ?_
                refine jB C [(.i2l, 1, 0)] 212 [(4, .int (v4 + 1)), (6, .int u0), (0, .ref (b + v0)), (2, .int v2), (3, .int v3), (5, .int v5)] [.long ((S31.1 a36 u0.toNatClampNeg).toInt64), .int v3, .ref (b + a27)] (by decide +kernel) rfl rfl ?_
                refine jSub [2, 3, 4, 0] rfl ?_
                exact j_X11_reckonAll_212 C hE t_v0 t_a27 hk10 h
              · have h := it1 h c35
                refine jB C [(.aload_n 0, 1, 0), (.iload 6, 2, 0)] 197 [(4, .int (v4 + 1)), (6, .int u0), (0, .ref (b + v0)), (2, .int v2), (3, .int v3), (5, .int v5)] [.int u0, .ref (b + v0), .int v3, .ref (b + a27)] (by decide +kernel) rfl rfl ?_
                refine jcV_I C 200 (rest := [.int v3, .ref (b + a27)]) (ok_X11_sightOf t_v0 h) (by decide +kernel : decode cX11_reckonAll 197 = .ok (.invokevirtual 215, 3)) rfl wd_1386 wd_1388 wp_105 wd_12 wd_1389 ⟨rfl, rfl⟩ hd_X11_sightOf ⟨Nat.le_of_ble_eq_true rfl, Nat.le_of_ble_eq_true rfl⟩ t_v0 kX11 (by decide) rfl rfl rfl (Nat.le_of_ble_eq_true rfl) ⟨Nat.zero_le _, Nat.zero_le _⟩ (fun r39 S38 h => ?_)
                refine jB C [(.i2l, 1, 0)] 201 [(4, .int (v4 + 1)), (6, .int u0), (0, .ref (b + v0)), (2, .int v2), (3, .int v3), (5, .int v5)] [.long r39.toInt64, .int v3, .ref (b + a27)] (by decide +kernel) rfl rfl ?_
                refine jGoto C 212 (by decide +kernel : decode cX11_reckonAll 201 = .ok (.goto 11, 3)) rfl ?_
                refine jSub [2, 3, 4, 0] rfl ?_
                exact j_X11_reckonAll_212 C hE t_v0 t_a27 hk10 h
            · have h := it1 h c34
              refine jB C [(.aload_n 0, 1, 0), (.iload 6, 2, 0)] 180 [(4, .int (v4 + 1)), (6, .int u0), (0, .ref (b + v0)), (2, .int v2), (3, .int v3), (5, .int v5)] [.int u0, .ref (b + v0), .int v3, .ref (b + a27)] (by decide +kernel) rfl rfl ?_
              refine jcV_I C 183 (rest := [.int v3, .ref (b + a27)]) (ok_X11_sinsOf t_v0 h) (by decide +kernel : decode cX11_reckonAll 180 = .ok (.invokevirtual 425, 3)) rfl wd_1406 wd_1408 wp_109 wd_12 wd_1409 ⟨rfl, rfl⟩ hd_X11_sinsOf ⟨Nat.le_of_ble_eq_true rfl, Nat.le_of_ble_eq_true rfl⟩ t_v0 kX11 (by decide) rfl rfl rfl (Nat.le_of_ble_eq_true rfl) ⟨Nat.zero_le _, Nat.zero_le _⟩ (fun r41 S40 h => ?_)
              refine jB C [(.i2l, 1, 0)] 184 [(4, .int (v4 + 1)), (6, .int u0), (0, .ref (b + v0)), (2, .int v2), (3, .int v3), (5, .int v5)] [.long r41.toInt64, .int v3, .ref (b + a27)] (by decide +kernel) rfl rfl ?_
              refine jGoto C 212 (by decide +kernel : decode cX11_reckonAll 184 = .ok (.goto 28, 3)) rfl ?_
              refine jSub [2, 3, 4, 0] rfl ?_
              exact j_X11_reckonAll_212 C hE t_v0 t_a27 hk10 h
          · have h := it1 h c33
            refine jLdc2 C 168 (by decide +kernel : decode cX11_reckonAll 165 = .ok (.ldc2_w 298, 3)) rfl wd_1405 ?_
            refine jGoto C 212 (by decide +kernel : decode cX11_reckonAll 168 = .ok (.goto 44, 3)) rfl ?_
            refine jSub [2, 3, 4, 0] rfl ?_
            exact j_X11_reckonAll_212 C hE t_v0 t_a27 hk10 h
        · have h := it2 h c30
          refine jB C [(.aload_n 0, 1, 0)] 147 [(4, .int (v4 + 1)), (6, .int u0), (0, .ref (b + v0)), (2, .int v2), (3, .int v3), (5, .int v5)] [.ref (b + v0), .int v3, .ref (b + a27)] (by decide +kernel) rfl rfl ?_
          obtain ⟨a42, e_a42, h⟩ := h
          refine jGetR C 150 (by decide +kernel : decode cX11_reckonAll 147 = .ok (.getfield 105, 3)) rfl t_v0 kX11 37 (by decide) rfl rfl (by decide) wd_1191 e_a42 rfl (fun t_a42 => ?_)
          refine jB C [(.iload 5, 2, 0)] 152 [(4, .int (v4 + 1)), (6, .int u0), (0, .ref (b + v0)), (2, .int v2), (3, .int v3), (5, .int v5)] [.int v5, .ref (b + a42), .int v3, .ref (b + a27)] (by decide +kernel) rfl rfl ?_
          obtain ⟨y43, h⟩ := h
          refine jLald C 153 (by decide +kernel : decode cX11_reckonAll 152 = .ok (.laload, 1)) rfl t_a42 y43 ?_
          refine jGoto C 212 (by decide +kernel : decode cX11_reckonAll 153 = .ok (.goto 59, 3)) rfl ?_
          refine jSub [2, 3, 4, 0] rfl ?_
          exact j_X11_reckonAll_212 C hE t_v0 t_a27 hk10 h
      · have h := it1 h c29
        refine jB C [(.aload_n 0, 1, 0)] 131 [(4, .int (v4 + 1)), (6, .int u0), (0, .ref (b + v0)), (2, .int v2), (3, .int v3), (5, .int v5)] [.ref (b + v0), .int v3, .ref (b + a27)] (by decide +kernel) rfl rfl ?_
        obtain ⟨a44, e_a44, h⟩ := h
        refine jGetR C 134 (by decide +kernel : decode cX11_reckonAll 131 = .ok (.getfield 102, 3)) rfl t_v0 kX11 36 (by decide) rfl rfl (by decide) wd_1190 e_a44 rfl (fun t_a44 => ?_)
        refine jB C [(.iload 5, 2, 0)] 136 [(4, .int (v4 + 1)), (6, .int u0), (0, .ref (b + v0)), (2, .int v2), (3, .int v3), (5, .int v5)] [.int v5, .ref (b + a44), .int v3, .ref (b + a27)] (by decide +kernel) rfl rfl ?_
        obtain ⟨y45, h⟩ := h
        refine jLald C 137 (by decide +kernel : decode cX11_reckonAll 136 = .ok (.laload, 1)) rfl t_a44 y45 ?_
        refine jGoto C 212 (by decide +kernel : decode cX11_reckonAll 137 = .ok (.goto 75, 3)) rfl ?_
        refine jSub [2, 3, 4, 0] rfl ?_
        exact j_X11_reckonAll_212 C hE t_v0 t_a27 hk10 h
    · have h := it1 h c28
      refine jB C [(.iload 6, 2, 0), (.i2l, 1, 0)] 120 [(4, .int (v4 + 1)), (6, .int u0), (0, .ref (b + v0)), (2, .int v2), (3, .int v3), (5, .int v5)] [.long u0.toInt64, .int v3, .ref (b + a27)] (by decide +kernel) rfl rfl ?_
      refine jGoto C 212 (by decide +kernel : decode cX11_reckonAll 120 = .ok (.goto 92, 3)) rfl ?_
      refine jSub [2, 3, 4, 0] rfl ?_
      exact j_X11_reckonAll_212 C hE t_v0 t_a27 hk10 h
set_option maxHeartbeats 4000000 in
set_option maxRecDepth 100000 in
theorem j_X11_reckonAll_57 {p : Program} {l : Launch} {e : Env} {s : State} {m : MethodId} {args : Array Value} {below : List Frame} {meth : Method} {c : Code} {b : Nat} {D : va_G} {cy : Nat → ClassId} {G : Gm} {k10 : Int32 → Int32 → St → Prop} {v0 : Nat} {v2 : Int32} {v3 : Int32} {v4 : Int32} {u0 : Int32} {S : St} {Q : St → Prop} (C : CX p s m args meth c b D cy cX11_reckonAll RX11 7 none) (hE : s.heap.size + 0 ≤ b + G.2.2) (t_v0 : ok G 10 v0) (hk10 : ∀ v3' v4' S, k10 v3' v4' S → J p l e rm_X11_reckonAll s m args below meth c b D cy 7 (zV b D cy below args s G Q) 0 0 G S 10 [(0, .ref (b + v0)), (2, .int v2), (3, .int (v3')), (4, .int (v4'))] []) (h : f_X11_reckonAll_57 G k10 v0 v2 v3 v4 u0 Q S) : J p l e rm_X11_reckonAll s m args below meth c b D cy 7 (zV b D cy below args s G Q) 0 0 G S 57 [(0, .ref (b + v0)), (2, .int v2), (3, .int v3), (4, .int v4)] [.int u0] := by
  unfold f_X11_reckonAll_57 at h
  refine jB C [(.istore 5, 2, 0), (.aload_n 0, 1, 0)] 60 [(5, .int u0), (0, .ref (b + v0)), (2, .int v2), (3, .int v3), (4, .int v4)] [.ref (b + v0)] (by decide +kernel) rfl rfl ?_
  refine jGetI C 63 (by decide +kernel : decode cX11_reckonAll 60 = .ok (.getfield 347, 3)) rfl t_v0 kX11 21 (by decide) rfl rfl (by decide) wd_1175 ?_
  refine jIf_eq C 66 76 (by decide +kernel : decode cX11_reckonAll 63 = .ok (.ifCond .eq 13, 3)) rfl rfl (fun c1 => ?_) (fun c1 => ?_)
  · have h := it1 h c1
    refine jB C [(.aload_n 0, 1, 0)] 77 [(5, .int u0), (0, .ref (b + v0)), (2, .int v2), (3, .int v3), (4, .int v4)] [.ref (b + v0)] (by decide +kernel) rfl rfl ?_
    obtain ⟨a2, e_a2, h⟩ := h
    refine jGetR C 80 (by decide +kernel : decode cX11_reckonAll 77 = .ok (.getfield 16, 3)) rfl t_v0 kX11 4 (by decide) rfl rfl (by decide) wd_1158 e_a2 rfl (fun t_a2 => ?_)
    refine jB C [(.aload_n 0, 1, 0)] 81 [(5, .int u0), (0, .ref (b + v0)), (2, .int v2), (3, .int v3), (4, .int v4)] [.ref (b + v0), .ref (b + a2)] (by decide +kernel) rfl rfl ?_
    refine jGetI C 84 (by decide +kernel : decode cX11_reckonAll 81 = .ok (.getfield 422, 3)) rfl t_v0 kX11 35 (by decide) rfl rfl (by decide) wd_1189 ?_
    refine jB C [(.bipush 98, 2, 98), (.iadd, 1, 0), (.iconst 2, 1, 2), (.iload 4, 2, 0), (.imul, 1, 0), (.iadd, 1, 0), (.iconst 1, 1, 1), (.iadd, 1, 0)] 94 [(5, .int u0), (0, .ref (b + v0)), (2, .int v2), (3, .int v3), (4, .int v4)] [.int ((((S.1 v0 35) + 98) + (2 * v4)) + 1), .ref (b + a2)] (by decide +kernel) rfl rfl ?_
    obtain ⟨y3, h⟩ := h
    refine jIald C 95 (by decide +kernel : decode cX11_reckonAll 94 = .ok (.iaload, 1)) rfl t_a2 y3 ?_
    refine jSub [1, 2, 3, 4, 0] rfl ?_
    exact j_X11_reckonAll_95 C hE t_v0 hk10 h
  · have h := it2 h c1
    refine jB C [(.aload_n 0, 1, 0)] 67 [(5, .int u0), (0, .ref (b + v0)), (2, .int v2), (3, .int v3), (4, .int v4)] [.ref (b + v0)] (by decide +kernel) rfl rfl ?_
    obtain ⟨a4, e_a4, h⟩ := h
    refine jGetR C 70 (by decide +kernel : decode cX11_reckonAll 67 = .ok (.getfield 51, 3)) rfl t_v0 kX11 26 (by decide) rfl rfl (by decide) wd_1180 e_a4 rfl (fun t_a4 => ?_)
    refine jB C [(.iload 4, 2, 0)] 72 [(5, .int u0), (0, .ref (b + v0)), (2, .int v2), (3, .int v3), (4, .int v4)] [.int v4, .ref (b + a4)] (by decide +kernel) rfl rfl ?_
    obtain ⟨y5, h⟩ := h
    refine jIald C 73 (by decide +kernel : decode cX11_reckonAll 72 = .ok (.iaload, 1)) rfl t_a4 y5 ?_
    refine jGoto C 95 (by decide +kernel : decode cX11_reckonAll 73 = .ok (.goto 22, 3)) rfl ?_
    refine jSub [1, 2, 3, 4, 0] rfl ?_
    exact j_X11_reckonAll_95 C hE t_v0 hk10 h
set_option maxHeartbeats 4000000 in
set_option maxRecDepth 100000 in
theorem j_X11_reckonAll_10_n {p : Program} {l : Launch} {e : Env} {s : State} {m : MethodId} {args : Array Value} {below : List Frame} {meth : Method} {c : Code} {b : Nat} {D : va_G} {cy : Nat → ClassId} {G : Gm} {v0 : Nat} {v2 : Int32} {Q : St → Prop} (C : CX p s m args meth c b D cy cX11_reckonAll RX11 7 none) (hE : s.heap.size + 0 ≤ b + G.2.2) (t_v0 : ok G 10 v0) : ∀ n (v3 : Int32) (v4 : Int32) S, f_X11_reckonAll_10_n G v0 v2 Q n v3 v4 S → J p l e rm_X11_reckonAll s m args below meth c b D cy 7 (zV b D cy below args s G Q) 0 0 G S 10 [(0, .ref (b + v0)), (2, .int v2), (3, .int v3), (4, .int v4)] [] := by
  intro n
  induction n with
  | zero => intro v3 v4 S h; exact h.elim
  | succ n ih =>
    intro v3 v4 S h
    unfold f_X11_reckonAll_10_n at h
    refine jB C [(.iload 4, 2, 0), (.iload_n 2, 1, 0)] 13 [(0, .ref (b + v0)), (2, .int v2), (3, .int v3), (4, .int v4)] [.int v2, .int v4] (by decide +kernel) rfl rfl ?_
    refine jIcmp_ge C 16 361 (by decide +kernel : decode cX11_reckonAll 13 = .ok (.if_icmp .ge 348, 3)) rfl rfl (fun c1 => ?_) (fun c1 => ?_)
    · have h := it1 h c1
      refine jSub [0, 2] rfl ?_
      exact j_X11_reckonAll_361 C hE t_v0 h
    · have h := it2 h c1
      refine jB C [(.aload_n 0, 1, 0)] 17 [(0, .ref (b + v0)), (2, .int v2), (3, .int v3), (4, .int v4)] [.ref (b + v0)] (by decide +kernel) rfl rfl ?_
      refine jGetI C 20 (by decide +kernel : decode cX11_reckonAll 17 = .ok (.getfield 419, 3)) rfl t_v0 kX11 40 (by decide) rfl rfl (by decide) wd_1194 ?_
      refine jIf_ne C 23 361 (by decide +kernel : decode cX11_reckonAll 20 = .ok (.ifCond .ne 341, 3)) rfl rfl (fun c2 => ?_) (fun c2 => ?_)
      · have h := it2 h c2
        refine jSub [0, 2] rfl ?_
        exact j_X11_reckonAll_361 C hE t_v0 h
      · have h := it1 h c2
        refine jB C [(.aload_n 0, 1, 0)] 24 [(0, .ref (b + v0)), (2, .int v2), (3, .int v3), (4, .int v4)] [.ref (b + v0)] (by decide +kernel) rfl rfl ?_
        refine jGetI C 27 (by decide +kernel : decode cX11_reckonAll 24 = .ok (.getfield 347, 3)) rfl t_v0 kX11 21 (by decide) rfl rfl (by decide) wd_1175 ?_
        refine jIf_eq C 30 40 (by decide +kernel : decode cX11_reckonAll 27 = .ok (.ifCond .eq 13, 3)) rfl rfl (fun c3 => ?_) (fun c3 => ?_)
        · have h := it1 h c3
          refine jB C [(.aload_n 0, 1, 0)] 41 [(0, .ref (b + v0)), (2, .int v2), (3, .int v3), (4, .int v4)] [.ref (b + v0)] (by decide +kernel) rfl rfl ?_
          obtain ⟨a4, e_a4, h⟩ := h
          refine jGetR C 44 (by decide +kernel : decode cX11_reckonAll 41 = .ok (.getfield 16, 3)) rfl t_v0 kX11 4 (by decide) rfl rfl (by decide) wd_1158 e_a4 rfl (fun t_a4 => ?_)
          refine jB C [(.aload_n 0, 1, 0)] 45 [(0, .ref (b + v0)), (2, .int v2), (3, .int v3), (4, .int v4)] [.ref (b + v0), .ref (b + a4)] (by decide +kernel) rfl rfl ?_
          refine jGetI C 48 (by decide +kernel : decode cX11_reckonAll 45 = .ok (.getfield 422, 3)) rfl t_v0 kX11 35 (by decide) rfl rfl (by decide) wd_1189 ?_
          refine jB C [(.bipush 98, 2, 98), (.iadd, 1, 0), (.iconst 2, 1, 2), (.iload 4, 2, 0), (.imul, 1, 0), (.iadd, 1, 0)] 56 [(0, .ref (b + v0)), (2, .int v2), (3, .int v3), (4, .int v4)] [.int (((S.1 v0 35) + 98) + (2 * v4)), .ref (b + a4)] (by decide +kernel) rfl rfl ?_
          obtain ⟨y5, h⟩ := h
          refine jIald C 57 (by decide +kernel : decode cX11_reckonAll 56 = .ok (.iaload, 1)) rfl t_a4 y5 ?_
          refine jSub [0, 1, 2, 3] rfl ?_
          exact j_X11_reckonAll_57 C hE t_v0 ih h
        · have h := it2 h c3
          refine jB C [(.aload_n 0, 1, 0)] 31 [(0, .ref (b + v0)), (2, .int v2), (3, .int v3), (4, .int v4)] [.ref (b + v0)] (by decide +kernel) rfl rfl ?_
          obtain ⟨a6, e_a6, h⟩ := h
          refine jGetR C 34 (by decide +kernel : decode cX11_reckonAll 31 = .ok (.getfield 48, 3)) rfl t_v0 kX11 25 (by decide) rfl rfl (by decide) wd_1179 e_a6 rfl (fun t_a6 => ?_)
          refine jB C [(.iload 4, 2, 0)] 36 [(0, .ref (b + v0)), (2, .int v2), (3, .int v3), (4, .int v4)] [.int v4, .ref (b + a6)] (by decide +kernel) rfl rfl ?_
          obtain ⟨y7, h⟩ := h
          refine jIald C 37 (by decide +kernel : decode cX11_reckonAll 36 = .ok (.iaload, 1)) rfl t_a6 y7 ?_
          refine jGoto C 57 (by decide +kernel : decode cX11_reckonAll 37 = .ok (.goto 20, 3)) rfl ?_
          refine jSub [0, 1, 2, 3] rfl ?_
          exact j_X11_reckonAll_57 C hE t_v0 ih h
theorem j_X11_reckonAll_10 {p : Program} {l : Launch} {e : Env} {s : State} {m : MethodId} {args : Array Value} {below : List Frame} {meth : Method} {c : Code} {b : Nat} {D : va_G} {cy : Nat → ClassId} {G : Gm} {v0 : Nat} {v2 : Int32} {v3 : Int32} {v4 : Int32} {S : St} {Q : St → Prop} (C : CX p s m args meth c b D cy cX11_reckonAll RX11 7 none) (hE : s.heap.size + 0 ≤ b + G.2.2) (t_v0 : ok G 10 v0) (h : f_X11_reckonAll_10 G v0 v2 Q v3 v4 S) : J p l e rm_X11_reckonAll s m args below meth c b D cy 7 (zV b D cy below args s G Q) 0 0 G S 10 [(0, .ref (b + v0)), (2, .int v2), (3, .int v3), (4, .int v4)] [] := by
  obtain ⟨n, h⟩ := h
  exact j_X11_reckonAll_10_n C hE t_v0 n v3 v4 S h
set_option maxHeartbeats 4000000 in
set_option maxRecDepth 100000 in
theorem j_X11_reckonAll {p : Program} {l : Launch} {e : Env} {s : State} {m : MethodId} {args : Array Value} {below : List Frame} {meth : Method} {c : Code} {b : Nat} {D : va_G} {cy : Nat → ClassId} {G : Gm} {v0 : Nat} {v1 : Int32} {v2 : Int32} {S : St} {Q : St → Prop} (C : CX p s m args meth c b D cy cX11_reckonAll RX11 7 none) (hE : s.heap.size + 0 ≤ b + G.2.2) (t_v0 : ok G 10 v0) (h : f_X11_reckonAll G v0 v1 v2 Q S) : J p l e rm_X11_reckonAll s m args below meth c b D cy 7 (zV b D cy below args s G Q) 0 0 G S 0 [(0, .ref (b + v0)), (1, .int v1), (2, .int v2)] [] := by
  unfold f_X11_reckonAll at h
  refine jB C [(.aload_n 0, 1, 0), (.iconst 0, 1, 0)] 2 [(0, .ref (b + v0)), (1, .int v1), (2, .int v2)] [.int 0, .ref (b + v0)] (by decide +kernel) rfl rfl ?_
  refine jPutI C 5 (by decide +kernel : decode cX11_reckonAll 2 = .ok (.putfield 419, 3)) rfl hE t_v0 kX11 40 (by decide) rfl rfl (by decide) rfl wd_1194 rfl (by decide) (by decide) ?_
  refine jTopS (fun S1 e_S1 => ?_)
  have h := h S1 e_S1
  refine jB C [(.iconst 0, 1, 0), (.istore_n 3, 1, 0), (.iload_n 1, 1, 0), (.istore 4, 2, 0)] 10 [(4, .int v1), (3, .int 0), (0, .ref (b + v0)), (1, .int v1), (2, .int v2)] [] (by decide +kernel) rfl rfl ?_
  refine jSub [2, 4, 1, 0] rfl ?_
  exact j_X11_reckonAll_10 C hE t_v0 h
theorem ok_X11_reckonAll {G : Gm} {v0 : Nat} {v1 : Int32} {v2 : Int32} {S : St} {Q : St → Prop} (t_v0 : ok G 10 v0) (h : f_X11_reckonAll G v0 v1 v2 Q S) : MT yX11_reckonAll cX11_reckonAll 7 none rm_X11_reckonAll 0 0 (fun b => [.ref (b + v0), .int v1, .int v2]) G S (QV (fun G1 S1 => G1 = G ∧ Q S1)) := MT.ofJ (by decide) (fun b => [(0, .ref (b + v0)), (1, .int v1), (2, .int v2)]) (fun b => rfl) (fun b => Nat.le_of_ble_eq_true rfl) (fun l b D cy p e s m below meth c C hE hn => j_X11_reckonAll C hE t_v0 h)
theorem hd_X11_reckonAll : yX11_reckonAll.cls ≠ "java/lang/invoke/MethodHandle" ∧ yX11_reckonAll.cls ≠ "java/lang/invoke/VarHandle" ∧ (parseMethodDescriptor yX11_reckonAll.desc).map (fun d => d.parameters.length) = some 2 := by decide +kernel
def f_X11_isSo_59 (G : Gm) (v0 : Nat) (v1 : Int32) (Q : Int32 → St → Prop) (S : St) : Prop :=
  (∃ a1, S.2.2 v0 4 = some a1 ∧ (vp_in v1 (G.2.1 a1) ∧ (if (S.1 a1 v1.toNatClampNeg) = 3 then Q 1 S else (∃ a4, S.2.2 v0 4 = some a4 ∧ (vp_in (v1 + 3) (G.2.1 a4) ∧ (∃ a6, S.2.2 v0 4 = some a6 ∧ (vp_in (v1 + 4) (G.2.1 a6) ∧ f_X11_reckonAll G v0 (S.1 a4 (v1 + 3).toNatClampNeg) (S.1 a6 (v1 + 4).toNatClampNeg) (fun S8 => (∀ S9, S9 = uJ S8 v0 42 (S8.2.1 v0 41) → (if (S9.1 v0 40) = 0 then Q 1 S9 else Q 0 S9))) S)))))))
def f_X11_isSo (G : Gm) (v0 : Nat) (v1 : Int32) (Q : Int32 → St → Prop) (S : St) : Prop :=
  (∃ a1, S.2.2 v0 4 = some a1 ∧ (vp_in (v1 + 5) (G.2.1 a1) ∧ (∃ a3, S.2.2 v0 4 = some a3 ∧ (vp_in (v1 + 6) (G.2.1 a3) ∧ (if (S.1 a3 (v1 + 6).toNatClampNeg) ≤ (S.1 a1 (v1 + 5).toNatClampNeg) then f_X11_isSo_59 G v0 v1 Q S else (∃ a6, S.2.2 v0 4 = some a6 ∧ (vp_in (v1 + 5) (G.2.1 a6) ∧ (∃ a8, S.2.2 v0 4 = some a8 ∧ (vp_in (v1 + 6) (G.2.1 a8) ∧ f_X11_reckonAll G v0 (S.1 a6 (v1 + 5).toNatClampNeg) (S.1 a8 (v1 + 6).toNatClampNeg) (fun S10 => (if (S10.1 v0 40) = 0 then (if (lg_cmp (S10.2.1 v0 41) 0) = 0 then Q 0 S10 else f_X11_isSo_59 G v0 v1 Q S10) else Q 0 S10)) S)))))))))
abbrev rm_X11_isSo : Room := { frames := 4, cells := 0, slots := 0, locals := 92 }
set_option maxHeartbeats 4000000 in
set_option maxRecDepth 100000 in
theorem j_X11_isSo_59 {p : Program} {l : Launch} {e : Env} {s : State} {m : MethodId} {args : Array Value} {below : List Frame} {meth : Method} {c : Code} {b : Nat} {D : va_G} {cy : Nat → ClassId} {G : Gm} {v0 : Nat} {v1 : Int32} {S : St} {Q : Int32 → St → Prop} (C : CX p s m args meth c b D cy cX11_isSo RX11 2 (some .boolean)) (hE : s.heap.size + 0 ≤ b + G.2.2) (t_v0 : ok G 10 v0) (h : f_X11_isSo_59 G v0 v1 Q S) : J p l e rm_X11_isSo s m args below meth c b D cy 2 (zI b D cy below args s G Q) 0 0 G S 59 [(0, .ref (b + v0)), (1, .int v1)] [] := by
  unfold f_X11_isSo_59 at h
  refine jB C [(.aload_n 0, 1, 0)] 60 [(0, .ref (b + v0)), (1, .int v1)] [.ref (b + v0)] (by decide +kernel) rfl rfl ?_
  obtain ⟨a1, e_a1, h⟩ := h
  refine jGetR C 63 (by decide +kernel : decode cX11_isSo 60 = .ok (.getfield 16, 3)) rfl t_v0 kX11 4 (by decide) rfl rfl (by decide) wd_1158 e_a1 rfl (fun t_a1 => ?_)
  refine jB C [(.iload_n 1, 1, 0)] 64 [(0, .ref (b + v0)), (1, .int v1)] [.int v1, .ref (b + a1)] (by decide +kernel) rfl rfl ?_
  obtain ⟨y2, h⟩ := h
  refine jIald C 65 (by decide +kernel : decode cX11_isSo 64 = .ok (.iaload, 1)) rfl t_a1 y2 ?_
  refine jB C [(.iconst 3, 1, 3)] 66 [(0, .ref (b + v0)), (1, .int v1)] [.int 3, .int (S.1 a1 v1.toNatClampNeg)] (by decide +kernel) rfl rfl ?_
  refine jIcmp_eq C 69 110 (by decide +kernel : decode cX11_isSo 66 = .ok (.if_icmp .eq 44, 3)) rfl rfl (fun c3 => ?_) (fun c3 => ?_)
  · have h := it1 h c3
    refine jB C [(.iconst 1, 1, 1)] 111 [(0, .ref (b + v0)), (1, .int v1)] [.int 1] (by decide +kernel) rfl rfl ?_
    exact jRetZ C (by decide +kernel : decode cX11_isSo 111 = .ok (.ireturn, 1)) (Nat.le_refl _) (Nat.le_refl _) (by decide) ⟨rfl, h⟩
  · have h := it2 h c3
    refine jB C [(.aload_n 0, 1, 0), (.aload_n 0, 1, 0)] 71 [(0, .ref (b + v0)), (1, .int v1)] [.ref (b + v0), .ref (b + v0)] (by decide +kernel) rfl rfl ?_
    obtain ⟨a4, e_a4, h⟩ := h
    refine jGetR C 74 (by decide +kernel : decode cX11_isSo 71 = .ok (.getfield 16, 3)) rfl t_v0 kX11 4 (by decide) rfl rfl (by decide) wd_1158 e_a4 rfl (fun t_a4 => ?_)
    refine jB C [(.iload_n 1, 1, 0), (.iconst 3, 1, 3), (.iadd, 1, 0)] 77 [(0, .ref (b + v0)), (1, .int v1)] [.int (v1 + 3), .ref (b + a4), .ref (b + v0)] (by decide +kernel) rfl rfl ?_
    obtain ⟨y5, h⟩ := h
    refine jIald C 78 (by decide +kernel : decode cX11_isSo 77 = .ok (.iaload, 1)) rfl t_a4 y5 ?_
    refine jB C [(.aload_n 0, 1, 0)] 79 [(0, .ref (b + v0)), (1, .int v1)] [.ref (b + v0), .int (S.1 a4 (v1 + 3).toNatClampNeg), .ref (b + v0)] (by decide +kernel) rfl rfl ?_
    obtain ⟨a6, e_a6, h⟩ := h
    refine jGetR C 82 (by decide +kernel : decode cX11_isSo 79 = .ok (.getfield 16, 3)) rfl t_v0 kX11 4 (by decide) rfl rfl (by decide) wd_1158 e_a6 rfl (fun t_a6 => ?_)
    refine jB C [(.iload_n 1, 1, 0), (.iconst 4, 1, 4), (.iadd, 1, 0)] 85 [(0, .ref (b + v0)), (1, .int v1)] [.int (v1 + 4), .ref (b + a6), .int (S.1 a4 (v1 + 3).toNatClampNeg), .ref (b + v0)] (by decide +kernel) rfl rfl ?_
    obtain ⟨y7, h⟩ := h
    refine jIald C 86 (by decide +kernel : decode cX11_isSo 85 = .ok (.iaload, 1)) rfl t_a6 y7 ?_
    refine jcV_V C 89 (rest := []) (ok_X11_reckonAll t_v0 h) (by decide +kernel : decode cX11_isSo 86 = .ok (.invokevirtual 439, 3)) rfl wd_1417 wd_1419 wp_111 wd_12 wd_1420 ⟨rfl, rfl⟩ hd_X11_reckonAll ⟨Nat.le_of_ble_eq_true rfl, Nat.le_of_ble_eq_true rfl⟩ t_v0 kX11 (by decide) rfl rfl rfl (Nat.le_of_ble_eq_true rfl) ⟨Nat.zero_le _, Nat.zero_le _⟩ (fun S8 h => ?_)
    refine jB C [(.aload_n 0, 1, 0), (.aload_n 0, 1, 0)] 91 [(0, .ref (b + v0)), (1, .int v1)] [.ref (b + v0), .ref (b + v0)] (by decide +kernel) rfl rfl ?_
    refine jGetJ C 94 (by decide +kernel : decode cX11_isSo 91 = .ok (.getfield 436, 3)) rfl t_v0 kX11 41 (by decide) rfl rfl (by decide) wd_1195 ?_
    refine jPutJ C 97 (by decide +kernel : decode cX11_isSo 94 = .ok (.putfield 442, 3)) rfl hE t_v0 kX11 42 (by decide) rfl rfl (by decide) rfl wd_1196 rfl rfl rfl ?_
    refine jTopS (fun S9 e_S9 => ?_)
    have h := h S9 e_S9
    refine jB C [(.aload_n 0, 1, 0)] 98 [(0, .ref (b + v0)), (1, .int v1)] [.ref (b + v0)] (by decide +kernel) rfl rfl ?_
    refine jGetI C 101 (by decide +kernel : decode cX11_isSo 98 = .ok (.getfield 419, 3)) rfl t_v0 kX11 40 (by decide) rfl rfl (by decide) wd_1194 ?_
    refine jIf_ne C 104 108 (by decide +kernel : decode cX11_isSo 101 = .ok (.ifCond .ne 7, 3)) rfl rfl (fun c10 => ?_) (fun c10 => ?_)
    · have h := it2 h c10
      refine jB C [(.iconst 0, 1, 0)] 109 [(0, .ref (b + v0)), (1, .int v1)] [.int 0] (by decide +kernel) rfl rfl ?_
      exact jRetZ C (by decide +kernel : decode cX11_isSo 109 = .ok (.ireturn, 1)) (Nat.le_refl _) (Nat.le_refl _) (by decide) ⟨rfl, h⟩
    · have h := it1 h c10
      refine jB C [(.iconst 1, 1, 1)] 105 [(0, .ref (b + v0)), (1, .int v1)] [.int 1] (by decide +kernel) rfl rfl ?_
      refine jGoto C 109 (by decide +kernel : decode cX11_isSo 105 = .ok (.goto 4, 3)) rfl ?_
      exact jRetZ C (by decide +kernel : decode cX11_isSo 109 = .ok (.ireturn, 1)) (Nat.le_refl _) (Nat.le_refl _) (by decide) ⟨rfl, h⟩
set_option maxHeartbeats 4000000 in
set_option maxRecDepth 100000 in
theorem j_X11_isSo {p : Program} {l : Launch} {e : Env} {s : State} {m : MethodId} {args : Array Value} {below : List Frame} {meth : Method} {c : Code} {b : Nat} {D : va_G} {cy : Nat → ClassId} {G : Gm} {v0 : Nat} {v1 : Int32} {S : St} {Q : Int32 → St → Prop} (C : CX p s m args meth c b D cy cX11_isSo RX11 2 (some .boolean)) (hE : s.heap.size + 0 ≤ b + G.2.2) (t_v0 : ok G 10 v0) (h : f_X11_isSo G v0 v1 Q S) : J p l e rm_X11_isSo s m args below meth c b D cy 2 (zI b D cy below args s G Q) 0 0 G S 0 [(0, .ref (b + v0)), (1, .int v1)] [] := by
  unfold f_X11_isSo at h
  refine jB C [(.aload_n 0, 1, 0)] 1 [(0, .ref (b + v0)), (1, .int v1)] [.ref (b + v0)] (by decide +kernel) rfl rfl ?_
  obtain ⟨a1, e_a1, h⟩ := h
  refine jGetR C 4 (by decide +kernel : decode cX11_isSo 1 = .ok (.getfield 16, 3)) rfl t_v0 kX11 4 (by decide) rfl rfl (by decide) wd_1158 e_a1 rfl (fun t_a1 => ?_)
  refine jB C [(.iload_n 1, 1, 0), (.iconst 5, 1, 5), (.iadd, 1, 0)] 7 [(0, .ref (b + v0)), (1, .int v1)] [.int (v1 + 5), .ref (b + a1)] (by decide +kernel) rfl rfl ?_
  obtain ⟨y2, h⟩ := h
  refine jIald C 8 (by decide +kernel : decode cX11_isSo 7 = .ok (.iaload, 1)) rfl t_a1 y2 ?_
  refine jB C [(.aload_n 0, 1, 0)] 9 [(0, .ref (b + v0)), (1, .int v1)] [.ref (b + v0), .int (S.1 a1 (v1 + 5).toNatClampNeg)] (by decide +kernel) rfl rfl ?_
  obtain ⟨a3, e_a3, h⟩ := h
  refine jGetR C 12 (by decide +kernel : decode cX11_isSo 9 = .ok (.getfield 16, 3)) rfl t_v0 kX11 4 (by decide) rfl rfl (by decide) wd_1158 e_a3 rfl (fun t_a3 => ?_)
  refine jB C [(.iload_n 1, 1, 0), (.bipush 6, 2, 6), (.iadd, 1, 0)] 16 [(0, .ref (b + v0)), (1, .int v1)] [.int (v1 + 6), .ref (b + a3), .int (S.1 a1 (v1 + 5).toNatClampNeg)] (by decide +kernel) rfl rfl ?_
  obtain ⟨y4, h⟩ := h
  refine jIald C 17 (by decide +kernel : decode cX11_isSo 16 = .ok (.iaload, 1)) rfl t_a3 y4 ?_
  refine jIcmp_ge C 20 59 (by decide +kernel : decode cX11_isSo 17 = .ok (.if_icmp .ge 42, 3)) rfl rfl (fun c5 => ?_) (fun c5 => ?_)
  · have h := it1 h c5
    refine jSub [0, 1] rfl ?_
    exact j_X11_isSo_59 C hE t_v0 h
  · have h := it2 h c5
    refine jB C [(.aload_n 0, 1, 0), (.aload_n 0, 1, 0)] 22 [(0, .ref (b + v0)), (1, .int v1)] [.ref (b + v0), .ref (b + v0)] (by decide +kernel) rfl rfl ?_
    obtain ⟨a6, e_a6, h⟩ := h
    refine jGetR C 25 (by decide +kernel : decode cX11_isSo 22 = .ok (.getfield 16, 3)) rfl t_v0 kX11 4 (by decide) rfl rfl (by decide) wd_1158 e_a6 rfl (fun t_a6 => ?_)
    refine jB C [(.iload_n 1, 1, 0), (.iconst 5, 1, 5), (.iadd, 1, 0)] 28 [(0, .ref (b + v0)), (1, .int v1)] [.int (v1 + 5), .ref (b + a6), .ref (b + v0)] (by decide +kernel) rfl rfl ?_
    obtain ⟨y7, h⟩ := h
    refine jIald C 29 (by decide +kernel : decode cX11_isSo 28 = .ok (.iaload, 1)) rfl t_a6 y7 ?_
    refine jB C [(.aload_n 0, 1, 0)] 30 [(0, .ref (b + v0)), (1, .int v1)] [.ref (b + v0), .int (S.1 a6 (v1 + 5).toNatClampNeg), .ref (b + v0)] (by decide +kernel) rfl rfl ?_
    obtain ⟨a8, e_a8, h⟩ := h
    refine jGetR C 33 (by decide +kernel : decode cX11_isSo 30 = .ok (.getfield 16, 3)) rfl t_v0 kX11 4 (by decide) rfl rfl (by decide) wd_1158 e_a8 rfl (fun t_a8 => ?_)
    refine jB C [(.iload_n 1, 1, 0), (.bipush 6, 2, 6), (.iadd, 1, 0)] 37 [(0, .ref (b + v0)), (1, .int v1)] [.int (v1 + 6), .ref (b + a8), .int (S.1 a6 (v1 + 5).toNatClampNeg), .ref (b + v0)] (by decide +kernel) rfl rfl ?_
    obtain ⟨y9, h⟩ := h
    refine jIald C 38 (by decide +kernel : decode cX11_isSo 37 = .ok (.iaload, 1)) rfl t_a8 y9 ?_
    refine jcV_V C 41 (rest := []) (ok_X11_reckonAll t_v0 h) (by decide +kernel : decode cX11_isSo 38 = .ok (.invokevirtual 439, 3)) rfl wd_1417 wd_1419 wp_111 wd_12 wd_1420 ⟨rfl, rfl⟩ hd_X11_reckonAll ⟨Nat.le_of_ble_eq_true rfl, Nat.le_of_ble_eq_true rfl⟩ t_v0 kX11 (by decide) rfl rfl rfl (Nat.le_of_ble_eq_true rfl) ⟨Nat.zero_le _, Nat.zero_le _⟩ (fun S10 h => ?_)
    refine jB C [(.aload_n 0, 1, 0)] 42 [(0, .ref (b + v0)), (1, .int v1)] [.ref (b + v0)] (by decide +kernel) rfl rfl ?_
    refine jGetI C 45 (by decide +kernel : decode cX11_isSo 42 = .ok (.getfield 419, 3)) rfl t_v0 kX11 40 (by decide) rfl rfl (by decide) wd_1194 ?_
    refine jIf_ne C 48 57 (by decide +kernel : decode cX11_isSo 45 = .ok (.ifCond .ne 12, 3)) rfl rfl (fun c11 => ?_) (fun c11 => ?_)
    · have h := it2 h c11
      refine jB C [(.iconst 0, 1, 0)] 58 [(0, .ref (b + v0)), (1, .int v1)] [.int 0] (by decide +kernel) rfl rfl ?_
      exact jRetZ C (by decide +kernel : decode cX11_isSo 58 = .ok (.ireturn, 1)) (Nat.le_refl _) (Nat.le_refl _) (by decide) ⟨rfl, h⟩
    · have h := it1 h c11
      refine jB C [(.aload_n 0, 1, 0)] 49 [(0, .ref (b + v0)), (1, .int v1)] [.ref (b + v0)] (by decide +kernel) rfl rfl ?_
      refine jGetJ C 52 (by decide +kernel : decode cX11_isSo 49 = .ok (.getfield 436, 3)) rfl t_v0 kX11 41 (by decide) rfl rfl (by decide) wd_1195 ?_
      refine jB C [(.lconst 0, 1, 0), (.lcmp, 1, 0)] 54 [(0, .ref (b + v0)), (1, .int v1)] [.int (lg_cmp (S10.2.1 v0 41) 0)] (by decide +kernel) rfl rfl ?_
      refine jIf_ne C 57 59 (by decide +kernel : decode cX11_isSo 54 = .ok (.ifCond .ne 5, 3)) rfl rfl (fun c12 => ?_) (fun c12 => ?_)
      · have h := it2 h c12
        refine jSub [0, 1] rfl ?_
        exact j_X11_isSo_59 C hE t_v0 h
      · have h := it1 h c12
        refine jB C [(.iconst 0, 1, 0)] 58 [(0, .ref (b + v0)), (1, .int v1)] [.int 0] (by decide +kernel) rfl rfl ?_
        exact jRetZ C (by decide +kernel : decode cX11_isSo 58 = .ok (.ireturn, 1)) (Nat.le_refl _) (Nat.le_refl _) (by decide) ⟨rfl, h⟩
theorem ok_X11_isSo {G : Gm} {v0 : Nat} {v1 : Int32} {S : St} {Q : Int32 → St → Prop} (t_v0 : ok G 10 v0) (h : f_X11_isSo G v0 v1 Q S) : MT yX11_isSo cX11_isSo 2 (some .boolean) rm_X11_isSo 0 0 (fun b => [.ref (b + v0), .int v1]) G S (QI (fun r G1 S1 => G1 = G ∧ Q r S1)) := MT.ofJ (by decide) (fun b => [(0, .ref (b + v0)), (1, .int v1)]) (fun b => rfl) (fun b => Nat.le_of_ble_eq_true rfl) (fun l b D cy p e s m below meth c C hE hn => j_X11_isSo C hE t_v0 h)
theorem hd_X11_isSo : yX11_isSo.cls ≠ "java/lang/invoke/MethodHandle" ∧ yX11_isSo.cls ≠ "java/lang/invoke/VarHandle" ∧ (parseMethodDescriptor yX11_isSo.desc).map (fun d => d.parameters.length) = some 1 := by decide +kernel
def f_X11_tells_184_n (G : Gm) (v0 : Nat) (v1 : Int32) (Q : Int64 → St → Prop) : Nat → Int64 → Int32 → St → Prop
  | 0, _, _, _ => False
  | n + 1, v7, v9, S => (∃ a1, S.2.2 v0 4 = some a1 ∧ (vp_in ((S.1 v0 35) + 1) (G.2.1 a1) ∧ (if (S.1 a1 ((S.1 v0 35) + 1).toNatClampNeg) ≤ v9 then Q v7 S else (∀ x4 : Int32, x4 = ((S.1 v0 35) + 2) + (8 * v9) → (∃ a5, S.2.2 v0 4 = some a5 ∧ (vp_in x4 (G.2.1 a5) ∧ (if (S.1 a5 x4.toNatClampNeg) = v1 then f_X11_isSo G v0 x4 (fun r9 S8 => (if r9 = 0 then (f_X11_tells_184_n G v0 v1 Q n) v7 (v9 + 1) S8 else (if v1 = 3 then (f_X11_tells_184_n G v0 v1 Q n) 1 (v9 + 1) S8 else (∀ x12 : Int64, x12 = S8.2.1 v0 42 → (f_X11_tells_184_n G v0 v1 Q n) x12 (v9 + 1) S8)))) S else (f_X11_tells_184_n G v0 v1 Q n) v7 (v9 + 1) S)))))))
def f_X11_tells_184 (G : Gm) (v0 : Nat) (v1 : Int32) (Q : Int64 → St → Prop) (v7 : Int64) (v9 : Int32) (S : St) : Prop := ∃ n, f_X11_tells_184_n G v0 v1 Q n v7 v9 S
def f_X11_tells_147 (G : Gm) (v0 : Nat) (v1 : Int32) (v5 : Int64) (u0 : Int64) (u1 : Int32) (u2 : Nat) (Q : Int64 → St → Prop) (S : St) : Prop :=
  (vp_in u1 (G.2.1 u2) ∧ ∀ S2, S2 = uJ S u2 u1.toNatClampNeg u0 → (∃ a3, S2.2.2 v0 36 = some a3 ∧ (∃ a4, S2.2.2 v0 4 = some a4 ∧ (vp_in 4 (G.2.1 a4) ∧ (vp_in 8 (G.2.1 a3) ∧ ∀ S7, S7 = uJ S2 a3 8.toNatClampNeg ((S2.1 a4 4.toNatClampNeg).toInt64) → (∃ a8, S7.2.2 v0 36 = some a8 ∧ (∃ a9, S7.2.2 v0 4 = some a9 ∧ (vp_in 6 (G.2.1 a9) ∧ (vp_in 9 (G.2.1 a8) ∧ ∀ S12, S12 = uJ S7 a8 9.toNatClampNeg ((S7.1 a9 6.toNatClampNeg).toInt64) → f_X11_tells_184 G v0 v1 Q v5 0 S12)))))))))
def f_X11_tells_122 (G : Gm) (v0 : Nat) (v1 : Int32) (v4 : Int32) (v5 : Int64) (u0 : Int64) (u1 : Int32) (u2 : Nat) (Q : Int64 → St → Prop) (S : St) : Prop :=
  (vp_in u1 (G.2.1 u2) ∧ ∀ S2, S2 = uJ S u2 u1.toNatClampNeg u0 → (∃ a3, S2.2.2 v0 36 = some a3 ∧ (if v4 = (-1) then f_X11_tells_147 G v0 v1 v5 (-1) 7 a3 Q S2 else f_X11_firstOf G v4 (fun r6 S5 => f_X11_tells_147 G v0 v1 v5 r6.toInt64 7 a3 Q S5) S2)))
def f_X11_tells_76 (G : Gm) (v0 : Nat) (v1 : Int32) (v2 : Int32) (v4 : Int32) (v5 : Int64) (u0 : Int64) (u1 : Int32) (u2 : Nat) (Q : Int64 → St → Prop) (S : St) : Prop :=
  (vp_in u1 (G.2.1 u2) ∧ ∀ S2, S2 = uJ S u2 u1.toNatClampNeg u0 → (∃ a3, S2.2.2 v0 36 = some a3 ∧ f_X11_sinsOf G v0 v2 (fun r5 S4 => (vp_in 4 (G.2.1 a3) ∧ ∀ S7, S7 = uJ S4 a3 4.toNatClampNeg r5.toInt64 → (∃ a8, S7.2.2 v0 36 = some a8 ∧ (vp_in 5 (G.2.1 a8) ∧ ∀ S10, S10 = uJ S7 a8 5.toNatClampNeg v4.toInt64 → (∃ a11, S10.2.2 v0 36 = some a11 ∧ (if v4 = (-1) then f_X11_tells_122 G v0 v1 v4 v5 (-1) 6 a11 Q S10 else f_X11_litOf G v4 (fun r14 S13 => f_X11_tells_122 G v0 v1 v4 v5 r14.toInt64 6 a11 Q S13) S10)))))) S2))
def f_X11_tells (G : Gm) (v0 : Nat) (v1 : Int32) (v2 : Int32) (v3 : Int32) (v4 : Int32) (v5 : Int64) (Q : Int64 → St → Prop) (S : St) : Prop :=
  (∃ a1, S.2.2 v0 4 = some a1 ∧ (vp_in 3 (G.2.1 a1) ∧ (if (S.1 a1 3.toNatClampNeg) = (-1) then Q v5 S else (∃ a4, S.2.2 v0 4 = some a4 ∧ (vp_in 3 (G.2.1 a4) ∧ (∀ S6, S6 = uI S v0 35 (85 + (900 * (S.1 a4 3.toNatClampNeg))) → (∃ a7, S6.2.2 v0 36 = some a7 ∧ (vp_in 1 (G.2.1 a7) ∧ ∀ S9, S9 = uJ S6 a7 1.toNatClampNeg v2.toInt64 → (∃ a10, S9.2.2 v0 36 = some a10 ∧ (vp_in 2 (G.2.1 a10) ∧ ∀ S12, S12 = uJ S9 a10 2.toNatClampNeg v3.toInt64 → (∃ a13, S12.2.2 v0 36 = some a13 ∧ (if v3 = (-1) then f_X11_tells_76 G v0 v1 v2 v4 v5 (-1) 3 a13 Q S12 else (∃ a15, S12.2.2 v0 4 = some a15 ∧ (vp_in ((8 + (4 * v2)) + v3) (G.2.1 a15) ∧ f_X11_tells_76 G v0 v1 v2 v4 v5 ((S12.1 a15 ((8 + (4 * v2)) + v3).toNatClampNeg).toInt64) 3 a13 Q S12))))))))))))))
abbrev rm_X11_tells : Room := { frames := 5, cells := 0, slots := 0, locals := 113 }
set_option maxHeartbeats 4000000 in
set_option maxRecDepth 100000 in
theorem j_X11_tells_184_n {p : Program} {l : Launch} {e : Env} {s : State} {m : MethodId} {args : Array Value} {below : List Frame} {meth : Method} {c : Code} {b : Nat} {D : va_G} {cy : Nat → ClassId} {G : Gm} {v0 : Nat} {v1 : Int32} {Q : Int64 → St → Prop} (C : CX p s m args meth c b D cy cX11_tells RX11 11 (some .long)) (hE : s.heap.size + 0 ≤ b + G.2.2) (t_v0 : ok G 10 v0) : ∀ n (v7 : Int64) (v9 : Int32) S, f_X11_tells_184_n G v0 v1 Q n v7 v9 S → J p l e rm_X11_tells s m args below meth c b D cy 11 (zL b D cy below args s G Q) 0 0 G S 184 [(0, .ref (b + v0)), (1, .int v1), (7, .long v7), (9, .int v9)] [] := by
  intro n
  induction n with
  | zero => intro v7 v9 S h; exact h.elim
  | succ n ih =>
    intro v7 v9 S h
    unfold f_X11_tells_184_n at h
    refine jB C [(.iload 9, 2, 0), (.aload_n 0, 1, 0)] 187 [(0, .ref (b + v0)), (1, .int v1), (7, .long v7), (9, .int v9)] [.ref (b + v0), .int v9] (by decide +kernel) rfl rfl ?_
    obtain ⟨a1, e_a1, h⟩ := h
    refine jGetR C 190 (by decide +kernel : decode cX11_tells 187 = .ok (.getfield 16, 3)) rfl t_v0 kX11 4 (by decide) rfl rfl (by decide) wd_1158 e_a1 rfl (fun t_a1 => ?_)
    refine jB C [(.aload_n 0, 1, 0)] 191 [(0, .ref (b + v0)), (1, .int v1), (7, .long v7), (9, .int v9)] [.ref (b + v0), .ref (b + a1), .int v9] (by decide +kernel) rfl rfl ?_
    refine jGetI C 194 (by decide +kernel : decode cX11_tells 191 = .ok (.getfield 422, 3)) rfl t_v0 kX11 35 (by decide) rfl rfl (by decide) wd_1189 ?_
    refine jB C [(.iconst 1, 1, 1), (.iadd, 1, 0)] 196 [(0, .ref (b + v0)), (1, .int v1), (7, .long v7), (9, .int v9)] [.int ((S.1 v0 35) + 1), .ref (b + a1), .int v9] (by decide +kernel) rfl rfl ?_
    obtain ⟨y2, h⟩ := h
    refine jIald C 197 (by decide +kernel : decode cX11_tells 196 = .ok (.iaload, 1)) rfl t_a1 y2 ?_
    refine jIcmp_ge C 200 255 (by decide +kernel : decode cX11_tells 197 = .ok (.if_icmp .ge 58, 3)) rfl rfl (fun c3 => ?_) (fun c3 => ?_)
    · have h := it1 h c3
      refine jB C [(.lload 7, 2, 0)] 257 [(0, .ref (b + v0)), (1, .int v1), (7, .long v7), (9, .int v9)] [.long v7] (by decide +kernel) rfl rfl ?_
      exact jRetL C (by decide +kernel : decode cX11_tells 257 = .ok (.lreturn, 1)) (Nat.le_refl _) (Nat.le_refl _) ⟨rfl, h⟩
    · have h := it2 h c3
      refine jB C [(.aload_n 0, 1, 0)] 201 [(0, .ref (b + v0)), (1, .int v1), (7, .long v7), (9, .int v9)] [.ref (b + v0)] (by decide +kernel) rfl rfl ?_
      refine jGetI C 204 (by decide +kernel : decode cX11_tells 201 = .ok (.getfield 422, 3)) rfl t_v0 kX11 35 (by decide) rfl rfl (by decide) wd_1189 ?_
      refine jB C [(.iconst 2, 1, 2), (.iadd, 1, 0), (.bipush 8, 2, 8), (.iload 9, 2, 0), (.imul, 1, 0), (.iadd, 1, 0)] 212 [(0, .ref (b + v0)), (1, .int v1), (7, .long v7), (9, .int v9)] [.int (((S.1 v0 35) + 2) + (8 * v9))] (by decide +kernel) rfl rfl ?_
      refine jTopI (fun x4 e_x4 => ?_)
      have h := h x4 e_x4
      refine jB C [(.istore 10, 2, 0), (.aload_n 0, 1, 0)] 215 [(10, .int x4), (0, .ref (b + v0)), (1, .int v1), (7, .long v7), (9, .int v9)] [.ref (b + v0)] (by decide +kernel) rfl rfl ?_
      obtain ⟨a5, e_a5, h⟩ := h
      refine jGetR C 218 (by decide +kernel : decode cX11_tells 215 = .ok (.getfield 16, 3)) rfl t_v0 kX11 4 (by decide) rfl rfl (by decide) wd_1158 e_a5 rfl (fun t_a5 => ?_)
      refine jB C [(.iload 10, 2, 0)] 220 [(10, .int x4), (0, .ref (b + v0)), (1, .int v1), (7, .long v7), (9, .int v9)] [.int x4, .ref (b + a5)] (by decide +kernel) rfl rfl ?_
      obtain ⟨y6, h⟩ := h
      refine jIald C 221 (by decide +kernel : decode cX11_tells 220 = .ok (.iaload, 1)) rfl t_a5 y6 ?_
      refine jB C [(.iload_n 1, 1, 0)] 222 [(10, .int x4), (0, .ref (b + v0)), (1, .int v1), (7, .long v7), (9, .int v9)] [.int v1, .int (S.1 a5 x4.toNatClampNeg)] (by decide +kernel) rfl rfl ?_
      refine jIcmp_ne C 225 249 (by decide +kernel : decode cX11_tells 222 = .ok (.if_icmp .ne 27, 3)) rfl rfl (fun c7 => ?_) (fun c7 => ?_)
      · have h := it2 h c7
        refine jB C [(.iinc 9 1, 3, 1)] 252 [(9, .int (v9 + 1)), (10, .int x4), (0, .ref (b + v0)), (1, .int v1), (7, .long v7)] [] (by decide +kernel) rfl rfl ?_
        refine jGoto C 184 (by decide +kernel : decode cX11_tells 252 = .ok (.goto (-68), 3)) rfl ?_
        refine jSub [2, 3, 4, 0] rfl ?_
        exact ih v7 (v9 + 1) S h
      · have h := it1 h c7
        refine jB C [(.aload_n 0, 1, 0), (.iload 10, 2, 0)] 228 [(10, .int x4), (0, .ref (b + v0)), (1, .int v1), (7, .long v7), (9, .int v9)] [.int x4, .ref (b + v0)] (by decide +kernel) rfl rfl ?_
        refine jcV_I C 231 (rest := []) (ok_X11_isSo t_v0 h) (by decide +kernel : decode cX11_tells 228 = .ok (.invokevirtual 451, 3)) rfl wd_1413 wd_1415 wp_110 wd_12 wd_1416 ⟨rfl, rfl⟩ hd_X11_isSo ⟨Nat.le_of_ble_eq_true rfl, Nat.le_of_ble_eq_true rfl⟩ t_v0 kX11 (by decide) rfl rfl rfl (Nat.le_of_ble_eq_true rfl) ⟨Nat.zero_le _, Nat.zero_le _⟩ (fun r9 S8 h => ?_)
        refine jIf_eq C 234 249 (by decide +kernel : decode cX11_tells 231 = .ok (.ifCond .eq 18, 3)) rfl rfl (fun c10 => ?_) (fun c10 => ?_)
        · have h := it1 h c10
          refine jB C [(.iinc 9 1, 3, 1)] 252 [(9, .int (v9 + 1)), (10, .int x4), (0, .ref (b + v0)), (1, .int v1), (7, .long v7)] [] (by decide +kernel) rfl rfl ?_
          refine jGoto C 184 (by decide +kernel : decode cX11_tells 252 = .ok (.goto (-68), 3)) rfl ?_
          refine jSub [2, 3, 4, 0] rfl ?_
          exact ih v7 (v9 + 1) S8 h
        · have h := it2 h c10
          refine jB C [(.iload_n 1, 1, 0), (.iconst 3, 1, 3)] 236 [(10, .int x4), (0, .ref (b + v0)), (1, .int v1), (7, .long v7), (9, .int v9)] [.int 3, .int v1] (by decide +kernel) rfl rfl ?_
          refine jIcmp_ne C 239 243 (by decide +kernel : decode cX11_tells 236 = .ok (.if_icmp .ne 7, 3)) rfl rfl (fun c11 => ?_) (fun c11 => ?_)
          · have h := it2 h c11
            refine jB C [(.aload_n 0, 1, 0)] 244 [(10, .int x4), (0, .ref (b + v0)), (1, .int v1), (7, .long v7), (9, .int v9)] [.ref (b + v0)] (by decide +kernel) rfl rfl ?_
            refine jGetJ C 247 (by decide +kernel : decode cX11_tells 244 = .ok (.getfield 442, 3)) rfl t_v0 kX11 42 (by decide) rfl rfl (by decide) wd_1196 ?_
            refine jTopL (fun x12 e_x12 => ?_)
            have h := h x12 e_x12
            refine jB C [(.lstore 7, 2, 0), (.iinc 9 1, 3, 1)] 252 [(9, .int (v9 + 1)), (7, .long x12), (10, .int x4), (0, .ref (b + v0)), (1, .int v1)] [] (by decide +kernel) rfl rfl ?_
            refine jGoto C 184 (by decide +kernel : decode cX11_tells 252 = .ok (.goto (-68), 3)) rfl ?_
            refine jSub [3, 4, 1, 0] rfl ?_
            exact ih x12 (v9 + 1) S8 h
          · have h := it1 h c11
            refine jB C [(.lconst 1, 1, 0)] 240 [(10, .int x4), (0, .ref (b + v0)), (1, .int v1), (7, .long v7), (9, .int v9)] [.long 1] (by decide +kernel) rfl rfl ?_
            refine jGoto C 247 (by decide +kernel : decode cX11_tells 240 = .ok (.goto 7, 3)) rfl ?_
            refine jB C [(.lstore 7, 2, 0), (.iinc 9 1, 3, 1)] 252 [(9, .int (v9 + 1)), (7, .long 1), (10, .int x4), (0, .ref (b + v0)), (1, .int v1)] [] (by decide +kernel) rfl rfl ?_
            refine jGoto C 184 (by decide +kernel : decode cX11_tells 252 = .ok (.goto (-68), 3)) rfl ?_
            refine jSub [3, 4, 1, 0] rfl ?_
            exact ih 1 (v9 + 1) S8 h
theorem j_X11_tells_184 {p : Program} {l : Launch} {e : Env} {s : State} {m : MethodId} {args : Array Value} {below : List Frame} {meth : Method} {c : Code} {b : Nat} {D : va_G} {cy : Nat → ClassId} {G : Gm} {v0 : Nat} {v1 : Int32} {v7 : Int64} {v9 : Int32} {S : St} {Q : Int64 → St → Prop} (C : CX p s m args meth c b D cy cX11_tells RX11 11 (some .long)) (hE : s.heap.size + 0 ≤ b + G.2.2) (t_v0 : ok G 10 v0) (h : f_X11_tells_184 G v0 v1 Q v7 v9 S) : J p l e rm_X11_tells s m args below meth c b D cy 11 (zL b D cy below args s G Q) 0 0 G S 184 [(0, .ref (b + v0)), (1, .int v1), (7, .long v7), (9, .int v9)] [] := by
  obtain ⟨n, h⟩ := h
  exact j_X11_tells_184_n C hE t_v0 n v7 v9 S h
set_option maxHeartbeats 4000000 in
set_option maxRecDepth 100000 in
theorem j_X11_tells_147 {p : Program} {l : Launch} {e : Env} {s : State} {m : MethodId} {args : Array Value} {below : List Frame} {meth : Method} {c : Code} {b : Nat} {D : va_G} {cy : Nat → ClassId} {G : Gm} {v0 : Nat} {v1 : Int32} {v5 : Int64} {u0 : Int64} {u1 : Int32} {u2 : Nat} {S : St} {Q : Int64 → St → Prop} (C : CX p s m args meth c b D cy cX11_tells RX11 11 (some .long)) (hE : s.heap.size + 0 ≤ b + G.2.2) (t_v0 : ok G 10 v0) (t_u2 : ok G 12 u2) (h : f_X11_tells_147 G v0 v1 v5 u0 u1 u2 Q S) : J p l e rm_X11_tells s m args below meth c b D cy 11 (zL b D cy below args s G Q) 0 0 G S 147 [(0, .ref (b + v0)), (1, .int v1), (5, .long v5)] [.long u0, .int u1, .ref (b + u2)] := by
  unfold f_X11_tells_147 at h
  obtain ⟨y1, h⟩ := h
  refine jLast C 148 (by decide +kernel : decode cX11_tells 147 = .ok (.lastore, 1)) rfl hE t_u2 y1 ?_
  refine jTopS (fun S2 e_S2 => ?_)
  have h := h S2 e_S2
  refine jB C [(.aload_n 0, 1, 0)] 149 [(0, .ref (b + v0)), (1, .int v1), (5, .long v5)] [.ref (b + v0)] (by decide +kernel) rfl rfl ?_
  obtain ⟨a3, e_a3, h⟩ := h
  refine jGetR C 152 (by decide +kernel : decode cX11_tells 149 = .ok (.getfield 102, 3)) rfl t_v0 kX11 36 (by decide) rfl rfl (by decide) wd_1190 e_a3 rfl (fun t_a3 => ?_)
  refine jB C [(.bipush 8, 2, 8), (.aload_n 0, 1, 0)] 155 [(0, .ref (b + v0)), (1, .int v1), (5, .long v5)] [.ref (b + v0), .int 8, .ref (b + a3)] (by decide +kernel) rfl rfl ?_
  obtain ⟨a4, e_a4, h⟩ := h
  refine jGetR C 158 (by decide +kernel : decode cX11_tells 155 = .ok (.getfield 16, 3)) rfl t_v0 kX11 4 (by decide) rfl rfl (by decide) wd_1158 e_a4 rfl (fun t_a4 => ?_)
  refine jB C [(.iconst 4, 1, 4)] 159 [(0, .ref (b + v0)), (1, .int v1), (5, .long v5)] [.int 4, .ref (b + a4), .int 8, .ref (b + a3)] (by decide +kernel) rfl rfl ?_
  obtain ⟨y5, h⟩ := h
  refine jIald C 160 (by decide +kernel : decode cX11_tells 159 = .ok (.iaload, 1)) rfl t_a4 y5 ?_
  refine jB C [(.i2l, 1, 0)] 161 [(0, .ref (b + v0)), (1, .int v1), (5, .long v5)] [.long ((S2.1 a4 4.toNatClampNeg).toInt64), .int 8, .ref (b + a3)] (by decide +kernel) rfl rfl ?_
  obtain ⟨y6, h⟩ := h
  refine jLast C 162 (by decide +kernel : decode cX11_tells 161 = .ok (.lastore, 1)) rfl hE t_a3 y6 ?_
  refine jTopS (fun S7 e_S7 => ?_)
  have h := h S7 e_S7
  refine jB C [(.aload_n 0, 1, 0)] 163 [(0, .ref (b + v0)), (1, .int v1), (5, .long v5)] [.ref (b + v0)] (by decide +kernel) rfl rfl ?_
  obtain ⟨a8, e_a8, h⟩ := h
  refine jGetR C 166 (by decide +kernel : decode cX11_tells 163 = .ok (.getfield 102, 3)) rfl t_v0 kX11 36 (by decide) rfl rfl (by decide) wd_1190 e_a8 rfl (fun t_a8 => ?_)
  refine jB C [(.bipush 9, 2, 9), (.aload_n 0, 1, 0)] 169 [(0, .ref (b + v0)), (1, .int v1), (5, .long v5)] [.ref (b + v0), .int 9, .ref (b + a8)] (by decide +kernel) rfl rfl ?_
  obtain ⟨a9, e_a9, h⟩ := h
  refine jGetR C 172 (by decide +kernel : decode cX11_tells 169 = .ok (.getfield 16, 3)) rfl t_v0 kX11 4 (by decide) rfl rfl (by decide) wd_1158 e_a9 rfl (fun t_a9 => ?_)
  refine jB C [(.bipush 6, 2, 6)] 174 [(0, .ref (b + v0)), (1, .int v1), (5, .long v5)] [.int 6, .ref (b + a9), .int 9, .ref (b + a8)] (by decide +kernel) rfl rfl ?_
  obtain ⟨y10, h⟩ := h
  refine jIald C 175 (by decide +kernel : decode cX11_tells 174 = .ok (.iaload, 1)) rfl t_a9 y10 ?_
  refine jB C [(.i2l, 1, 0)] 176 [(0, .ref (b + v0)), (1, .int v1), (5, .long v5)] [.long ((S7.1 a9 6.toNatClampNeg).toInt64), .int 9, .ref (b + a8)] (by decide +kernel) rfl rfl ?_
  obtain ⟨y11, h⟩ := h
  refine jLast C 177 (by decide +kernel : decode cX11_tells 176 = .ok (.lastore, 1)) rfl hE t_a8 y11 ?_
  refine jTopS (fun S12 e_S12 => ?_)
  have h := h S12 e_S12
  refine jB C [(.lload 5, 2, 0), (.lstore 7, 2, 0), (.iconst 0, 1, 0), (.istore 9, 2, 0)] 184 [(9, .int 0), (7, .long v5), (0, .ref (b + v0)), (1, .int v1), (5, .long v5)] [] (by decide +kernel) rfl rfl ?_
  refine jSub [2, 3, 1, 0] rfl ?_
  exact j_X11_tells_184 C hE t_v0 h
set_option maxHeartbeats 4000000 in
set_option maxRecDepth 100000 in
theorem j_X11_tells_122 {p : Program} {l : Launch} {e : Env} {s : State} {m : MethodId} {args : Array Value} {below : List Frame} {meth : Method} {c : Code} {b : Nat} {D : va_G} {cy : Nat → ClassId} {G : Gm} {v0 : Nat} {v1 : Int32} {v4 : Int32} {v5 : Int64} {u0 : Int64} {u1 : Int32} {u2 : Nat} {S : St} {Q : Int64 → St → Prop} (C : CX p s m args meth c b D cy cX11_tells RX11 11 (some .long)) (hE : s.heap.size + 0 ≤ b + G.2.2) (t_v0 : ok G 10 v0) (t_u2 : ok G 12 u2) (h : f_X11_tells_122 G v0 v1 v4 v5 u0 u1 u2 Q S) : J p l e rm_X11_tells s m args below meth c b D cy 11 (zL b D cy below args s G Q) 0 0 G S 122 [(0, .ref (b + v0)), (1, .int v1), (4, .int v4), (5, .long v5)] [.long u0, .int u1, .ref (b + u2)] := by
  unfold f_X11_tells_122 at h
  obtain ⟨y1, h⟩ := h
  refine jLast C 123 (by decide +kernel : decode cX11_tells 122 = .ok (.lastore, 1)) rfl hE t_u2 y1 ?_
  refine jTopS (fun S2 e_S2 => ?_)
  have h := h S2 e_S2
  refine jB C [(.aload_n 0, 1, 0)] 124 [(0, .ref (b + v0)), (1, .int v1), (4, .int v4), (5, .long v5)] [.ref (b + v0)] (by decide +kernel) rfl rfl ?_
  obtain ⟨a3, e_a3, h⟩ := h
  refine jGetR C 127 (by decide +kernel : decode cX11_tells 124 = .ok (.getfield 102, 3)) rfl t_v0 kX11 36 (by decide) rfl rfl (by decide) wd_1190 e_a3 rfl (fun t_a3 => ?_)
  refine jB C [(.bipush 7, 2, 7), (.iload 4, 2, 0), (.iconst (-1), 1, (-1))] 132 [(0, .ref (b + v0)), (1, .int v1), (4, .int v4), (5, .long v5)] [.int (-1), .int v4, .int 7, .ref (b + a3)] (by decide +kernel) rfl rfl ?_
  refine jIcmp_ne C 135 141 (by decide +kernel : decode cX11_tells 132 = .ok (.if_icmp .ne 9, 3)) rfl rfl (fun c4 => ?_) (fun c4 => ?_)
  · have h := it2 h c4
    refine jB C [(.iload 4, 2, 0)] 143 [(0, .ref (b + v0)), (1, .int v1), (4, .int v4), (5, .long v5)] [.int v4, .int 7, .ref (b + a3)] (by decide +kernel) rfl rfl ?_
    refine jcS_I C 146 (rest := [.int 7, .ref (b + a3)]) (ok_X11_firstOf h) (by decide +kernel : decode cX11_tells 143 = .ok (.invokestatic 448, 3)) rfl wd_1410 wd_1411 wd_12 wd_1412 ⟨rfl, rfl⟩ hd_X11_firstOf ⟨Nat.le_of_ble_eq_true rfl, Nat.le_of_ble_eq_true rfl⟩ rfl rfl (Nat.le_of_ble_eq_true rfl) ⟨Nat.zero_le _, Nat.zero_le _⟩ (fun r6 S5 h => ?_)
    refine jB C [(.i2l, 1, 0)] 147 [(0, .ref (b + v0)), (1, .int v1), (4, .int v4), (5, .long v5)] [.long r6.toInt64, .int 7, .ref (b + a3)] (by decide +kernel) rfl rfl ?_
    refine jSub [0, 1, 3] rfl ?_
    exact j_X11_tells_147 C hE t_v0 t_a3 h
  · have h := it1 h c4
    refine jLdc2 C 138 (by decide +kernel : decode cX11_tells 135 = .ok (.ldc2_w 298, 3)) rfl wd_1405 ?_
    refine jGoto C 147 (by decide +kernel : decode cX11_tells 138 = .ok (.goto 9, 3)) rfl ?_
    refine jSub [0, 1, 3] rfl ?_
    exact j_X11_tells_147 C hE t_v0 t_a3 h
set_option maxHeartbeats 4000000 in
set_option maxRecDepth 100000 in
theorem j_X11_tells_76 {p : Program} {l : Launch} {e : Env} {s : State} {m : MethodId} {args : Array Value} {below : List Frame} {meth : Method} {c : Code} {b : Nat} {D : va_G} {cy : Nat → ClassId} {G : Gm} {v0 : Nat} {v1 : Int32} {v2 : Int32} {v4 : Int32} {v5 : Int64} {u0 : Int64} {u1 : Int32} {u2 : Nat} {S : St} {Q : Int64 → St → Prop} (C : CX p s m args meth c b D cy cX11_tells RX11 11 (some .long)) (hE : s.heap.size + 0 ≤ b + G.2.2) (t_v0 : ok G 10 v0) (t_u2 : ok G 12 u2) (h : f_X11_tells_76 G v0 v1 v2 v4 v5 u0 u1 u2 Q S) : J p l e rm_X11_tells s m args below meth c b D cy 11 (zL b D cy below args s G Q) 0 0 G S 76 [(0, .ref (b + v0)), (1, .int v1), (2, .int v2), (4, .int v4), (5, .long v5)] [.long u0, .int u1, .ref (b + u2)] := by
  unfold f_X11_tells_76 at h
  obtain ⟨y1, h⟩ := h
  refine jLast C 77 (by decide +kernel : decode cX11_tells 76 = .ok (.lastore, 1)) rfl hE t_u2 y1 ?_
  refine jTopS (fun S2 e_S2 => ?_)
  have h := h S2 e_S2
  refine jB C [(.aload_n 0, 1, 0)] 78 [(0, .ref (b + v0)), (1, .int v1), (2, .int v2), (4, .int v4), (5, .long v5)] [.ref (b + v0)] (by decide +kernel) rfl rfl ?_
  obtain ⟨a3, e_a3, h⟩ := h
  refine jGetR C 81 (by decide +kernel : decode cX11_tells 78 = .ok (.getfield 102, 3)) rfl t_v0 kX11 36 (by decide) rfl rfl (by decide) wd_1190 e_a3 rfl (fun t_a3 => ?_)
  refine jB C [(.iconst 4, 1, 4), (.aload_n 0, 1, 0), (.iload_n 2, 1, 0)] 84 [(0, .ref (b + v0)), (1, .int v1), (2, .int v2), (4, .int v4), (5, .long v5)] [.int v2, .ref (b + v0), .int 4, .ref (b + a3)] (by decide +kernel) rfl rfl ?_
  refine jcV_I C 87 (rest := [.int 4, .ref (b + a3)]) (ok_X11_sinsOf t_v0 h) (by decide +kernel : decode cX11_tells 84 = .ok (.invokevirtual 425, 3)) rfl wd_1406 wd_1408 wp_109 wd_12 wd_1409 ⟨rfl, rfl⟩ hd_X11_sinsOf ⟨Nat.le_of_ble_eq_true rfl, Nat.le_of_ble_eq_true rfl⟩ t_v0 kX11 (by decide) rfl rfl rfl (Nat.le_of_ble_eq_true rfl) ⟨Nat.zero_le _, Nat.zero_le _⟩ (fun r5 S4 h => ?_)
  refine jB C [(.i2l, 1, 0)] 88 [(0, .ref (b + v0)), (1, .int v1), (2, .int v2), (4, .int v4), (5, .long v5)] [.long r5.toInt64, .int 4, .ref (b + a3)] (by decide +kernel) rfl rfl ?_
  obtain ⟨y6, h⟩ := h
  refine jLast C 89 (by decide +kernel : decode cX11_tells 88 = .ok (.lastore, 1)) rfl hE t_a3 y6 ?_
  refine jTopS (fun S7 e_S7 => ?_)
  have h := h S7 e_S7
  refine jB C [(.aload_n 0, 1, 0)] 90 [(0, .ref (b + v0)), (1, .int v1), (2, .int v2), (4, .int v4), (5, .long v5)] [.ref (b + v0)] (by decide +kernel) rfl rfl ?_
  obtain ⟨a8, e_a8, h⟩ := h
  refine jGetR C 93 (by decide +kernel : decode cX11_tells 90 = .ok (.getfield 102, 3)) rfl t_v0 kX11 36 (by decide) rfl rfl (by decide) wd_1190 e_a8 rfl (fun t_a8 => ?_)
  refine jB C [(.iconst 5, 1, 5), (.iload 4, 2, 0), (.i2l, 1, 0)] 97 [(0, .ref (b + v0)), (1, .int v1), (2, .int v2), (4, .int v4), (5, .long v5)] [.long v4.toInt64, .int 5, .ref (b + a8)] (by decide +kernel) rfl rfl ?_
  obtain ⟨y9, h⟩ := h
  refine jLast C 98 (by decide +kernel : decode cX11_tells 97 = .ok (.lastore, 1)) rfl hE t_a8 y9 ?_
  refine jTopS (fun S10 e_S10 => ?_)
  have h := h S10 e_S10
  refine jB C [(.aload_n 0, 1, 0)] 99 [(0, .ref (b + v0)), (1, .int v1), (2, .int v2), (4, .int v4), (5, .long v5)] [.ref (b + v0)] (by decide +kernel) rfl rfl ?_
  obtain ⟨a11, e_a11, h⟩ := h
  refine jGetR C 102 (by decide +kernel : decode cX11_tells 99 = .ok (.getfield 102, 3)) rfl t_v0 kX11 36 (by decide) rfl rfl (by decide) wd_1190 e_a11 rfl (fun t_a11 => ?_)
  refine jB C [(.bipush 6, 2, 6), (.iload 4, 2, 0), (.iconst (-1), 1, (-1))] 107 [(0, .ref (b + v0)), (1, .int v1), (2, .int v2), (4, .int v4), (5, .long v5)] [.int (-1), .int v4, .int 6, .ref (b + a11)] (by decide +kernel) rfl rfl ?_
  refine jIcmp_ne C 110 116 (by decide +kernel : decode cX11_tells 107 = .ok (.if_icmp .ne 9, 3)) rfl rfl (fun c12 => ?_) (fun c12 => ?_)
  · have h := it2 h c12
    refine jB C [(.iload 4, 2, 0)] 118 [(0, .ref (b + v0)), (1, .int v1), (2, .int v2), (4, .int v4), (5, .long v5)] [.int v4, .int 6, .ref (b + a11)] (by decide +kernel) rfl rfl ?_
    refine jcS_I C 121 (rest := [.int 6, .ref (b + a11)]) (ok_X11_litOf h) (by decide +kernel : decode cX11_tells 118 = .ok (.invokestatic 445, 3)) rfl wd_1398 wd_1399 wd_12 wd_1400 ⟨rfl, rfl⟩ hd_X11_litOf ⟨Nat.le_of_ble_eq_true rfl, Nat.le_of_ble_eq_true rfl⟩ rfl rfl (Nat.le_of_ble_eq_true rfl) ⟨Nat.zero_le _, Nat.zero_le _⟩ (fun r14 S13 h => ?_)
    refine jB C [(.i2l, 1, 0)] 122 [(0, .ref (b + v0)), (1, .int v1), (2, .int v2), (4, .int v4), (5, .long v5)] [.long r14.toInt64, .int 6, .ref (b + a11)] (by decide +kernel) rfl rfl ?_
    refine jSub [0, 1, 3, 4] rfl ?_
    exact j_X11_tells_122 C hE t_v0 t_a11 h
  · have h := it1 h c12
    refine jLdc2 C 113 (by decide +kernel : decode cX11_tells 110 = .ok (.ldc2_w 298, 3)) rfl wd_1405 ?_
    refine jGoto C 122 (by decide +kernel : decode cX11_tells 113 = .ok (.goto 9, 3)) rfl ?_
    refine jSub [0, 1, 3, 4] rfl ?_
    exact j_X11_tells_122 C hE t_v0 t_a11 h
set_option maxHeartbeats 4000000 in
set_option maxRecDepth 100000 in
theorem j_X11_tells {p : Program} {l : Launch} {e : Env} {s : State} {m : MethodId} {args : Array Value} {below : List Frame} {meth : Method} {c : Code} {b : Nat} {D : va_G} {cy : Nat → ClassId} {G : Gm} {v0 : Nat} {v1 : Int32} {v2 : Int32} {v3 : Int32} {v4 : Int32} {v5 : Int64} {S : St} {Q : Int64 → St → Prop} (C : CX p s m args meth c b D cy cX11_tells RX11 11 (some .long)) (hE : s.heap.size + 0 ≤ b + G.2.2) (t_v0 : ok G 10 v0) (h : f_X11_tells G v0 v1 v2 v3 v4 v5 Q S) : J p l e rm_X11_tells s m args below meth c b D cy 11 (zL b D cy below args s G Q) 0 0 G S 0 [(0, .ref (b + v0)), (1, .int v1), (2, .int v2), (3, .int v3), (4, .int v4), (5, .long v5)] [] := by
  unfold f_X11_tells at h
  refine jB C [(.aload_n 0, 1, 0)] 1 [(0, .ref (b + v0)), (1, .int v1), (2, .int v2), (3, .int v3), (4, .int v4), (5, .long v5)] [.ref (b + v0)] (by decide +kernel) rfl rfl ?_
  obtain ⟨a1, e_a1, h⟩ := h
  refine jGetR C 4 (by decide +kernel : decode cX11_tells 1 = .ok (.getfield 16, 3)) rfl t_v0 kX11 4 (by decide) rfl rfl (by decide) wd_1158 e_a1 rfl (fun t_a1 => ?_)
  refine jB C [(.iconst 3, 1, 3)] 5 [(0, .ref (b + v0)), (1, .int v1), (2, .int v2), (3, .int v3), (4, .int v4), (5, .long v5)] [.int 3, .ref (b + a1)] (by decide +kernel) rfl rfl ?_
  obtain ⟨y2, h⟩ := h
  refine jIald C 6 (by decide +kernel : decode cX11_tells 5 = .ok (.iaload, 1)) rfl t_a1 y2 ?_
  refine jB C [(.iconst (-1), 1, (-1))] 7 [(0, .ref (b + v0)), (1, .int v1), (2, .int v2), (3, .int v3), (4, .int v4), (5, .long v5)] [.int (-1), .int (S.1 a1 3.toNatClampNeg)] (by decide +kernel) rfl rfl ?_
  refine jIcmp_ne C 10 13 (by decide +kernel : decode cX11_tells 7 = .ok (.if_icmp .ne 6, 3)) rfl rfl (fun c3 => ?_) (fun c3 => ?_)
  · have h := it2 h c3
    refine jB C [(.aload_n 0, 1, 0), (.bipush 85, 2, 85), (.sipush 900, 3, 900), (.aload_n 0, 1, 0)] 20 [(0, .ref (b + v0)), (1, .int v1), (2, .int v2), (3, .int v3), (4, .int v4), (5, .long v5)] [.ref (b + v0), .int 900, .int 85, .ref (b + v0)] (by decide +kernel) rfl rfl ?_
    obtain ⟨a4, e_a4, h⟩ := h
    refine jGetR C 23 (by decide +kernel : decode cX11_tells 20 = .ok (.getfield 16, 3)) rfl t_v0 kX11 4 (by decide) rfl rfl (by decide) wd_1158 e_a4 rfl (fun t_a4 => ?_)
    refine jB C [(.iconst 3, 1, 3)] 24 [(0, .ref (b + v0)), (1, .int v1), (2, .int v2), (3, .int v3), (4, .int v4), (5, .long v5)] [.int 3, .ref (b + a4), .int 900, .int 85, .ref (b + v0)] (by decide +kernel) rfl rfl ?_
    obtain ⟨y5, h⟩ := h
    refine jIald C 25 (by decide +kernel : decode cX11_tells 24 = .ok (.iaload, 1)) rfl t_a4 y5 ?_
    refine jB C [(.imul, 1, 0), (.iadd, 1, 0)] 27 [(0, .ref (b + v0)), (1, .int v1), (2, .int v2), (3, .int v3), (4, .int v4), (5, .long v5)] [.int (85 + (900 * (S.1 a4 3.toNatClampNeg))), .ref (b + v0)] (by decide +kernel) rfl rfl ?_
    refine jPutI C 30 (by decide +kernel : decode cX11_tells 27 = .ok (.putfield 422, 3)) rfl hE t_v0 kX11 35 (by decide) rfl rfl (by decide) rfl wd_1189 rfl rfl rfl ?_
    refine jTopS (fun S6 e_S6 => ?_)
    have h := h S6 e_S6
    refine jB C [(.aload_n 0, 1, 0)] 31 [(0, .ref (b + v0)), (1, .int v1), (2, .int v2), (3, .int v3), (4, .int v4), (5, .long v5)] [.ref (b + v0)] (by decide +kernel) rfl rfl ?_
    obtain ⟨a7, e_a7, h⟩ := h
    refine jGetR C 34 (by decide +kernel : decode cX11_tells 31 = .ok (.getfield 102, 3)) rfl t_v0 kX11 36 (by decide) rfl rfl (by decide) wd_1190 e_a7 rfl (fun t_a7 => ?_)
    refine jB C [(.iconst 1, 1, 1), (.iload_n 2, 1, 0), (.i2l, 1, 0)] 37 [(0, .ref (b + v0)), (1, .int v1), (2, .int v2), (3, .int v3), (4, .int v4), (5, .long v5)] [.long v2.toInt64, .int 1, .ref (b + a7)] (by decide +kernel) rfl rfl ?_
    obtain ⟨y8, h⟩ := h
    refine jLast C 38 (by decide +kernel : decode cX11_tells 37 = .ok (.lastore, 1)) rfl hE t_a7 y8 ?_
    refine jTopS (fun S9 e_S9 => ?_)
    have h := h S9 e_S9
    refine jB C [(.aload_n 0, 1, 0)] 39 [(0, .ref (b + v0)), (1, .int v1), (2, .int v2), (3, .int v3), (4, .int v4), (5, .long v5)] [.ref (b + v0)] (by decide +kernel) rfl rfl ?_
    obtain ⟨a10, e_a10, h⟩ := h
    refine jGetR C 42 (by decide +kernel : decode cX11_tells 39 = .ok (.getfield 102, 3)) rfl t_v0 kX11 36 (by decide) rfl rfl (by decide) wd_1190 e_a10 rfl (fun t_a10 => ?_)
    refine jB C [(.iconst 2, 1, 2), (.iload_n 3, 1, 0), (.i2l, 1, 0)] 45 [(0, .ref (b + v0)), (1, .int v1), (2, .int v2), (3, .int v3), (4, .int v4), (5, .long v5)] [.long v3.toInt64, .int 2, .ref (b + a10)] (by decide +kernel) rfl rfl ?_
    obtain ⟨y11, h⟩ := h
    refine jLast C 46 (by decide +kernel : decode cX11_tells 45 = .ok (.lastore, 1)) rfl hE t_a10 y11 ?_
    refine jTopS (fun S12 e_S12 => ?_)
    have h := h S12 e_S12
    refine jB C [(.aload_n 0, 1, 0)] 47 [(0, .ref (b + v0)), (1, .int v1), (2, .int v2), (3, .int v3), (4, .int v4), (5, .long v5)] [.ref (b + v0)] (by decide +kernel) rfl rfl ?_
    obtain ⟨a13, e_a13, h⟩ := h
    refine jGetR C 50 (by decide +kernel : decode cX11_tells 47 = .ok (.getfield 102, 3)) rfl t_v0 kX11 36 (by decide) rfl rfl (by decide) wd_1190 e_a13 rfl (fun t_a13 => ?_)
    refine jB C [(.iconst 3, 1, 3), (.iload_n 3, 1, 0), (.iconst (-1), 1, (-1))] 53 [(0, .ref (b + v0)), (1, .int v1), (2, .int v2), (3, .int v3), (4, .int v4), (5, .long v5)] [.int (-1), .int v3, .int 3, .ref (b + a13)] (by decide +kernel) rfl rfl ?_
    refine jIcmp_ne C 56 62 (by decide +kernel : decode cX11_tells 53 = .ok (.if_icmp .ne 9, 3)) rfl rfl (fun c14 => ?_) (fun c14 => ?_)
    · have h := it2 h c14
      refine jB C [(.aload_n 0, 1, 0)] 63 [(0, .ref (b + v0)), (1, .int v1), (2, .int v2), (3, .int v3), (4, .int v4), (5, .long v5)] [.ref (b + v0), .int 3, .ref (b + a13)] (by decide +kernel) rfl rfl ?_
      obtain ⟨a15, e_a15, h⟩ := h
      refine jGetR C 66 (by decide +kernel : decode cX11_tells 63 = .ok (.getfield 16, 3)) rfl t_v0 kX11 4 (by decide) rfl rfl (by decide) wd_1158 e_a15 rfl (fun t_a15 => ?_)
      refine jB C [(.bipush 8, 2, 8), (.iconst 4, 1, 4), (.iload_n 2, 1, 0), (.imul, 1, 0), (.iadd, 1, 0), (.iload_n 3, 1, 0), (.iadd, 1, 0)] 74 [(0, .ref (b + v0)), (1, .int v1), (2, .int v2), (3, .int v3), (4, .int v4), (5, .long v5)] [.int ((8 + (4 * v2)) + v3), .ref (b + a15), .int 3, .ref (b + a13)] (by decide +kernel) rfl rfl ?_
      obtain ⟨y16, h⟩ := h
      refine jIald C 75 (by decide +kernel : decode cX11_tells 74 = .ok (.iaload, 1)) rfl t_a15 y16 ?_
      refine jB C [(.i2l, 1, 0)] 76 [(0, .ref (b + v0)), (1, .int v1), (2, .int v2), (3, .int v3), (4, .int v4), (5, .long v5)] [.long ((S12.1 a15 ((8 + (4 * v2)) + v3).toNatClampNeg).toInt64), .int 3, .ref (b + a13)] (by decide +kernel) rfl rfl ?_
      refine jSub [0, 1, 2, 4, 5] rfl ?_
      exact j_X11_tells_76 C hE t_v0 t_a13 h
    · have h := it1 h c14
      refine jLdc2 C 59 (by decide +kernel : decode cX11_tells 56 = .ok (.ldc2_w 298, 3)) rfl wd_1405 ?_
      refine jGoto C 76 (by decide +kernel : decode cX11_tells 59 = .ok (.goto 17, 3)) rfl ?_
      refine jSub [0, 1, 2, 4, 5] rfl ?_
      exact j_X11_tells_76 C hE t_v0 t_a13 h
  · have h := it1 h c3
    refine jB C [(.lload 5, 2, 0)] 12 [(0, .ref (b + v0)), (1, .int v1), (2, .int v2), (3, .int v3), (4, .int v4), (5, .long v5)] [.long v5] (by decide +kernel) rfl rfl ?_
    exact jRetL C (by decide +kernel : decode cX11_tells 12 = .ok (.lreturn, 1)) (Nat.le_refl _) (Nat.le_refl _) ⟨rfl, h⟩
theorem ok_X11_tells {G : Gm} {v0 : Nat} {v1 : Int32} {v2 : Int32} {v3 : Int32} {v4 : Int32} {v5 : Int64} {S : St} {Q : Int64 → St → Prop} (t_v0 : ok G 10 v0) (h : f_X11_tells G v0 v1 v2 v3 v4 v5 Q S) : MT yX11_tells cX11_tells 11 (some .long) rm_X11_tells 0 0 (fun b => [.ref (b + v0), .int v1, .int v2, .int v3, .int v4, .long v5]) G S (QL (fun r G1 S1 => G1 = G ∧ Q r S1)) := MT.ofJ (by decide) (fun b => [(0, .ref (b + v0)), (1, .int v1), (2, .int v2), (3, .int v3), (4, .int v4), (5, .long v5)]) (fun b => rfl) (fun b => Nat.le_of_ble_eq_true rfl) (fun l b D cy p e s m below meth c C hE hn => j_X11_tells C hE t_v0 h)
theorem hd_X11_tells : yX11_tells.cls ≠ "java/lang/invoke/MethodHandle" ∧ yX11_tells.cls ≠ "java/lang/invoke/VarHandle" ∧ (parseMethodDescriptor yX11_tells.desc).map (fun d => d.parameters.length) = some 5 := by decide +kernel
