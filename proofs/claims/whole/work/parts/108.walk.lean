def f_X11_isBarred (G : Gm) (v0 : Nat) (v1 : Int32) (Q : Int32 → St → Prop) (S : St) : Prop :=
  f_X11_sightOf G v0 v1 (fun r2 S1 => f_X11_tells G v0 3 v1 (-1) r2 0 (fun r4 S3 => (if (lg_cmp r4 1) = 0 then Q 1 S3 else Q 0 S3)) S1) S
abbrev rm_X11_isBarred : Room := { frames := 6, cells := 0, slots := 0, locals := 143 }
set_option maxHeartbeats 4000000 in
set_option maxRecDepth 100000 in
theorem j_X11_isBarred {p : Program} {l : Launch} {e : Env} {s : State} {m : MethodId} {args : Array Value} {below : List Frame} {meth : Method} {c : Code} {b : Nat} {D : va_G} {cy : Nat → ClassId} {G : Gm} {v0 : Nat} {v1 : Int32} {S : St} {Q : Int32 → St → Prop} (C : CX p s m args meth c b D cy cX11_isBarred RX11 2 (some .boolean)) (hE : s.heap.size + 0 ≤ b + G.2.2) (t_v0 : ok G 10 v0) (h : f_X11_isBarred G v0 v1 Q S) : J p l e rm_X11_isBarred s m args below meth c b D cy 2 (zI b D cy below args s G Q) 0 0 G S 0 [(0, .ref (b + v0)), (1, .int v1)] [] := by
  unfold f_X11_isBarred at h
  refine jB C [(.aload_n 0, 1, 0), (.iconst 3, 1, 3), (.iload_n 1, 1, 0), (.iconst (-1), 1, (-1)), (.aload_n 0, 1, 0), (.iload_n 1, 1, 0)] 6 [(0, .ref (b + v0)), (1, .int v1)] [.int v1, .ref (b + v0), .int (-1), .int v1, .int 3, .ref (b + v0)] (by decide +kernel) rfl rfl ?_
  refine jcV_I C 9 (rest := [.int (-1), .int v1, .int 3, .ref (b + v0)]) (ok_X11_sightOf t_v0 h) (by decide +kernel : decode cX11_isBarred 6 = .ok (.invokevirtual 215, 3)) rfl wd_1386 wd_1388 wp_105 wd_12 wd_1389 ⟨rfl, rfl⟩ hd_X11_sightOf ⟨Nat.le_of_ble_eq_true rfl, Nat.le_of_ble_eq_true rfl⟩ t_v0 kX11 (by decide) rfl rfl rfl (Nat.le_of_ble_eq_true rfl) ⟨Nat.zero_le _, Nat.zero_le _⟩ (fun r2 S1 h => ?_)
  refine jB C [(.lconst 0, 1, 0)] 10 [(0, .ref (b + v0)), (1, .int v1)] [.long 0, .int r2, .int (-1), .int v1, .int 3, .ref (b + v0)] (by decide +kernel) rfl rfl ?_
  refine jcV_L C 13 (rest := []) (ok_X11_tells t_v0 h) (by decide +kernel : decode cX11_isBarred 10 = .ok (.invokevirtual 454, 3)) rfl wd_1401 wd_1403 wp_108 wd_12 wd_1404 ⟨rfl, rfl⟩ hd_X11_tells ⟨Nat.le_of_ble_eq_true rfl, Nat.le_of_ble_eq_true rfl⟩ t_v0 kX11 (by decide) rfl rfl rfl (Nat.le_of_ble_eq_true rfl) ⟨Nat.zero_le _, Nat.zero_le _⟩ (fun r4 S3 h => ?_)
  refine jB C [(.lconst 1, 1, 0), (.lcmp, 1, 0)] 15 [(0, .ref (b + v0)), (1, .int v1)] [.int (lg_cmp r4 1)] (by decide +kernel) rfl rfl ?_
  refine jIf_ne C 18 22 (by decide +kernel : decode cX11_isBarred 15 = .ok (.ifCond .ne 7, 3)) rfl rfl (fun c5 => ?_) (fun c5 => ?_)
  · have h := it2 h c5
    refine jB C [(.iconst 0, 1, 0)] 23 [(0, .ref (b + v0)), (1, .int v1)] [.int 0] (by decide +kernel) rfl rfl ?_
    exact jRetZ C (by decide +kernel : decode cX11_isBarred 23 = .ok (.ireturn, 1)) (Nat.le_refl _) (Nat.le_refl _) (by decide) ⟨rfl, h⟩
  · have h := it1 h c5
    refine jB C [(.iconst 1, 1, 1)] 19 [(0, .ref (b + v0)), (1, .int v1)] [.int 1] (by decide +kernel) rfl rfl ?_
    refine jGoto C 23 (by decide +kernel : decode cX11_isBarred 19 = .ok (.goto 4, 3)) rfl ?_
    exact jRetZ C (by decide +kernel : decode cX11_isBarred 23 = .ok (.ireturn, 1)) (Nat.le_refl _) (Nat.le_refl _) (by decide) ⟨rfl, h⟩
theorem ok_X11_isBarred {G : Gm} {v0 : Nat} {v1 : Int32} {S : St} {Q : Int32 → St → Prop} (t_v0 : ok G 10 v0) (h : f_X11_isBarred G v0 v1 Q S) : MT yX11_isBarred cX11_isBarred 2 (some .boolean) rm_X11_isBarred 0 0 (fun b => [.ref (b + v0), .int v1]) G S (QI (fun r G1 S1 => G1 = G ∧ Q r S1)) := MT.ofJ (by decide) (fun b => [(0, .ref (b + v0)), (1, .int v1)]) (fun b => rfl) (fun b => Nat.le_of_ble_eq_true rfl) (fun l b D cy p e s m below meth c C hE hn => j_X11_isBarred C hE t_v0 h)
theorem hd_X11_isBarred : yX11_isBarred.cls ≠ "java/lang/invoke/MethodHandle" ∧ yX11_isBarred.cls ≠ "java/lang/invoke/VarHandle" ∧ (parseMethodDescriptor yX11_isBarred.desc).map (fun d => d.parameters.length) = some 1 := by decide +kernel
def f_X11_within (G : Gm) (v0 : Int64) (v2 : Int32) (v3 : Int32) (Q : Int32 → St → Prop) (S : St) : Prop :=
  (if 0 ≤ (lg_cmp v0 v2.toInt64) then (if (lg_cmp v0 v3.toInt64) ≤ 0 then Q v0.toInt32 S else Q v3 S) else Q v2 S)
abbrev rm_X11_within : Room := { frames := 0, cells := 0, slots := 0, locals := 0 }
set_option maxHeartbeats 4000000 in
set_option maxRecDepth 100000 in
theorem j_X11_within {p : Program} {l : Launch} {e : Env} {s : State} {m : MethodId} {args : Array Value} {below : List Frame} {meth : Method} {c : Code} {b : Nat} {D : va_G} {cy : Nat → ClassId} {G : Gm} {v0 : Int64} {v2 : Int32} {v3 : Int32} {S : St} {Q : Int32 → St → Prop} (C : CX p s m args meth c b D cy cX11_within RX11 4 (some .int)) (hE : s.heap.size + 0 ≤ b + G.2.2) (h : f_X11_within G v0 v2 v3 Q S) : J p l e rm_X11_within s m args below meth c b D cy 4 (zI b D cy below args s G Q) 0 0 G S 0 [(0, .long v0), (2, .int v2), (3, .int v3)] [] := by
  unfold f_X11_within at h
  refine jB C [(.lload_n 0, 1, 0), (.iload_n 2, 1, 0), (.i2l, 1, 0), (.lcmp, 1, 0)] 4 [(0, .long v0), (2, .int v2), (3, .int v3)] [.int (lg_cmp v0 v2.toInt64)] (by decide +kernel) rfl rfl ?_
  refine jIf_ge C 7 11 (by decide +kernel : decode cX11_within 4 = .ok (.ifCond .ge 7, 3)) rfl rfl (fun c1 => ?_) (fun c1 => ?_)
  · have h := it1 h c1
    refine jB C [(.lload_n 0, 1, 0), (.iload_n 3, 1, 0), (.i2l, 1, 0), (.lcmp, 1, 0)] 15 [(0, .long v0), (2, .int v2), (3, .int v3)] [.int (lg_cmp v0 v3.toInt64)] (by decide +kernel) rfl rfl ?_
    refine jIf_le C 18 22 (by decide +kernel : decode cX11_within 15 = .ok (.ifCond .le 7, 3)) rfl rfl (fun c2 => ?_) (fun c2 => ?_)
    · have h := it1 h c2
      refine jB C [(.lload_n 0, 1, 0), (.l2i, 1, 0)] 24 [(0, .long v0), (2, .int v2), (3, .int v3)] [.int v0.toInt32] (by decide +kernel) rfl rfl ?_
      exact jRetI C (by decide +kernel : decode cX11_within 24 = .ok (.ireturn, 1)) (Nat.le_refl _) (Nat.le_refl _) ⟨rfl, h⟩
    · have h := it2 h c2
      refine jB C [(.iload_n 3, 1, 0)] 19 [(0, .long v0), (2, .int v2), (3, .int v3)] [.int v3] (by decide +kernel) rfl rfl ?_
      refine jGoto C 24 (by decide +kernel : decode cX11_within 19 = .ok (.goto 5, 3)) rfl ?_
      exact jRetI C (by decide +kernel : decode cX11_within 24 = .ok (.ireturn, 1)) (Nat.le_refl _) (Nat.le_refl _) ⟨rfl, h⟩
  · have h := it2 h c1
    refine jB C [(.iload_n 2, 1, 0)] 8 [(0, .long v0), (2, .int v2), (3, .int v3)] [.int v2] (by decide +kernel) rfl rfl ?_
    refine jGoto C 24 (by decide +kernel : decode cX11_within 8 = .ok (.goto 16, 3)) rfl ?_
    exact jRetI C (by decide +kernel : decode cX11_within 24 = .ok (.ireturn, 1)) (Nat.le_refl _) (Nat.le_refl _) ⟨rfl, h⟩
theorem ok_X11_within {G : Gm} {v0 : Int64} {v2 : Int32} {v3 : Int32} {S : St} {Q : Int32 → St → Prop} (h : f_X11_within G v0 v2 v3 Q S) : MT yX11_within cX11_within 4 (some .int) rm_X11_within 0 0 (fun b => [.long v0, .int v2, .int v3]) G S (QI (fun r G1 S1 => G1 = G ∧ Q r S1)) := MT.ofJ (by decide) (fun b => [(0, .long v0), (2, .int v2), (3, .int v3)]) (fun b => rfl) (fun b => Nat.le_of_ble_eq_true rfl) (fun l b D cy p e s m below meth c C hE hn => j_X11_within C hE h)
theorem hd_X11_within : yX11_within.cls ≠ "java/lang/invoke/MethodHandle" ∧ yX11_within.cls ≠ "java/lang/invoke/VarHandle" ∧ (parseMethodDescriptor yX11_within.desc).map (fun d => d.parameters.length) = some 3 := by decide +kernel
def f_X11_grindsOf_30 (G : Gm) (u0 : Int64) (u1 : Int32) (u2 : Int32) (u3 : Int32) (u4 : Int32) (u5 : Nat) (Q : Int32 → St → Prop) (S : St) : Prop :=
  f_X11_tells G u5 u4 u3 u2 u1 u0 (fun r2 S1 => f_X11_within G r2 0 7 (fun r4 S3 => Q r4 S3) S1) S
def f_X11_grindsOf (G : Gm) (v0 : Nat) (v1 : Int32) (v2 : Int32) (Q : Int32 → St → Prop) (S : St) : Prop :=
  (∃ a1, S.2.2 v0 4 = some a1 ∧ (vp_in ((8 + (4 * v1)) + v2) (G.2.1 a1) ∧ (if 4 ≤ (S.1 a1 ((8 + (4 * v1)) + v2).toNatClampNeg) then f_X11_grindsOf_30 G (v2.toInt64 + 1) (-1) v2 v1 0 v0 Q S else f_X11_grindsOf_30 G 0 (-1) v2 v1 0 v0 Q S)))
abbrev rm_X11_grindsOf : Room := { frames := 6, cells := 0, slots := 0, locals := 143 }
set_option maxHeartbeats 4000000 in
set_option maxRecDepth 100000 in
theorem j_X11_grindsOf_30 {p : Program} {l : Launch} {e : Env} {s : State} {m : MethodId} {args : Array Value} {below : List Frame} {meth : Method} {c : Code} {b : Nat} {D : va_G} {cy : Nat → ClassId} {G : Gm} {u0 : Int64} {u1 : Int32} {u2 : Int32} {u3 : Int32} {u4 : Int32} {u5 : Nat} {S : St} {Q : Int32 → St → Prop} (C : CX p s m args meth c b D cy cX11_grindsOf RX11 3 (some .int)) (hE : s.heap.size + 0 ≤ b + G.2.2) (t_u5 : ok G 10 u5) (h : f_X11_grindsOf_30 G u0 u1 u2 u3 u4 u5 Q S) : J p l e rm_X11_grindsOf s m args below meth c b D cy 3 (zI b D cy below args s G Q) 0 0 G S 30 [] [.long u0, .int u1, .int u2, .int u3, .int u4, .ref (b + u5)] := by
  unfold f_X11_grindsOf_30 at h
  refine jcV_L C 33 (rest := []) (ok_X11_tells t_u5 h) (by decide +kernel : decode cX11_grindsOf 30 = .ok (.invokevirtual 454, 3)) rfl wd_1401 wd_1403 wp_108 wd_12 wd_1404 ⟨rfl, rfl⟩ hd_X11_tells ⟨Nat.le_of_ble_eq_true rfl, Nat.le_of_ble_eq_true rfl⟩ t_u5 kX11 (by decide) rfl rfl rfl (Nat.le_of_ble_eq_true rfl) ⟨Nat.zero_le _, Nat.zero_le _⟩ (fun r2 S1 h => ?_)
  refine jB C [(.iconst 0, 1, 0), (.bipush 7, 2, 7)] 36 [] [.int 7, .int 0, .long r2] (by decide +kernel) rfl rfl ?_
  refine jcS_I C 39 (rest := []) (ok_X11_within h) (by decide +kernel : decode cX11_grindsOf 36 = .ok (.invokestatic 458, 3)) rfl wd_1427 wd_1428 wd_12 wd_1429 ⟨rfl, rfl⟩ hd_X11_within ⟨Nat.le_of_ble_eq_true rfl, Nat.le_of_ble_eq_true rfl⟩ rfl rfl (Nat.le_of_ble_eq_true rfl) ⟨Nat.zero_le _, Nat.zero_le _⟩ (fun r4 S3 h => ?_)
  exact jRetI C (by decide +kernel : decode cX11_grindsOf 39 = .ok (.ireturn, 1)) (Nat.le_refl _) (Nat.le_refl _) ⟨rfl, h⟩
set_option maxHeartbeats 4000000 in
set_option maxRecDepth 100000 in
theorem j_X11_grindsOf {p : Program} {l : Launch} {e : Env} {s : State} {m : MethodId} {args : Array Value} {below : List Frame} {meth : Method} {c : Code} {b : Nat} {D : va_G} {cy : Nat → ClassId} {G : Gm} {v0 : Nat} {v1 : Int32} {v2 : Int32} {S : St} {Q : Int32 → St → Prop} (C : CX p s m args meth c b D cy cX11_grindsOf RX11 3 (some .int)) (hE : s.heap.size + 0 ≤ b + G.2.2) (t_v0 : ok G 10 v0) (h : f_X11_grindsOf G v0 v1 v2 Q S) : J p l e rm_X11_grindsOf s m args below meth c b D cy 3 (zI b D cy below args s G Q) 0 0 G S 0 [(0, .ref (b + v0)), (1, .int v1), (2, .int v2)] [] := by
  unfold f_X11_grindsOf at h
  refine jB C [(.aload_n 0, 1, 0), (.iconst 0, 1, 0), (.iload_n 1, 1, 0), (.iload_n 2, 1, 0), (.iconst (-1), 1, (-1)), (.aload_n 0, 1, 0)] 6 [(0, .ref (b + v0)), (1, .int v1), (2, .int v2)] [.ref (b + v0), .int (-1), .int v2, .int v1, .int 0, .ref (b + v0)] (by decide +kernel) rfl rfl ?_
  obtain ⟨a1, e_a1, h⟩ := h
  refine jGetR C 9 (by decide +kernel : decode cX11_grindsOf 6 = .ok (.getfield 16, 3)) rfl t_v0 kX11 4 (by decide) rfl rfl (by decide) wd_1158 e_a1 rfl (fun t_a1 => ?_)
  refine jB C [(.bipush 8, 2, 8), (.iconst 4, 1, 4), (.iload_n 1, 1, 0), (.imul, 1, 0), (.iadd, 1, 0), (.iload_n 2, 1, 0), (.iadd, 1, 0)] 17 [(0, .ref (b + v0)), (1, .int v1), (2, .int v2)] [.int ((8 + (4 * v1)) + v2), .ref (b + a1), .int (-1), .int v2, .int v1, .int 0, .ref (b + v0)] (by decide +kernel) rfl rfl ?_
  obtain ⟨y2, h⟩ := h
  refine jIald C 18 (by decide +kernel : decode cX11_grindsOf 17 = .ok (.iaload, 1)) rfl t_a1 y2 ?_
  refine jB C [(.iconst 4, 1, 4)] 19 [(0, .ref (b + v0)), (1, .int v1), (2, .int v2)] [.int 4, .int (S.1 a1 ((8 + (4 * v1)) + v2).toNatClampNeg), .int (-1), .int v2, .int v1, .int 0, .ref (b + v0)] (by decide +kernel) rfl rfl ?_
  refine jIcmp_ge C 22 26 (by decide +kernel : decode cX11_grindsOf 19 = .ok (.if_icmp .ge 7, 3)) rfl rfl (fun c3 => ?_) (fun c3 => ?_)
  · have h := it1 h c3
    refine jB C [(.iload_n 2, 1, 0), (.i2l, 1, 0), (.lconst 1, 1, 0), (.ladd, 1, 0)] 30 [(0, .ref (b + v0)), (1, .int v1), (2, .int v2)] [.long (v2.toInt64 + 1), .int (-1), .int v2, .int v1, .int 0, .ref (b + v0)] (by decide +kernel) rfl rfl ?_
    refine jSub [] rfl ?_
    exact j_X11_grindsOf_30 C hE t_v0 h
  · have h := it2 h c3
    refine jB C [(.lconst 0, 1, 0)] 23 [(0, .ref (b + v0)), (1, .int v1), (2, .int v2)] [.long 0, .int (-1), .int v2, .int v1, .int 0, .ref (b + v0)] (by decide +kernel) rfl rfl ?_
    refine jGoto C 30 (by decide +kernel : decode cX11_grindsOf 23 = .ok (.goto 7, 3)) rfl ?_
    refine jSub [] rfl ?_
    exact j_X11_grindsOf_30 C hE t_v0 h
theorem ok_X11_grindsOf {G : Gm} {v0 : Nat} {v1 : Int32} {v2 : Int32} {S : St} {Q : Int32 → St → Prop} (t_v0 : ok G 10 v0) (h : f_X11_grindsOf G v0 v1 v2 Q S) : MT yX11_grindsOf cX11_grindsOf 3 (some .int) rm_X11_grindsOf 0 0 (fun b => [.ref (b + v0), .int v1, .int v2]) G S (QI (fun r G1 S1 => G1 = G ∧ Q r S1)) := MT.ofJ (by decide) (fun b => [(0, .ref (b + v0)), (1, .int v1), (2, .int v2)]) (fun b => rfl) (fun b => Nat.le_of_ble_eq_true rfl) (fun l b D cy p e s m below meth c C hE hn => j_X11_grindsOf C hE t_v0 h)
theorem hd_X11_grindsOf : yX11_grindsOf.cls ≠ "java/lang/invoke/MethodHandle" ∧ yX11_grindsOf.cls ≠ "java/lang/invoke/VarHandle" ∧ (parseMethodDescriptor yX11_grindsOf.desc).map (fun d => d.parameters.length) = some 2 := by decide +kernel
def f_X11_layGround_4_n (G : Gm) (v0 : Nat) (v1 : Int32) (Q : Int32 → St → Prop) : Nat → Int32 → Int32 → St → Prop
  | 0, _, _, _ => False
  | n + 1, v2, v3, S => (if 4 ≤ v3 then Q v2 S else (∃ a2, S.2.2 v0 43 = some a2 ∧ f_X11_grindsOf G v0 v1 v3 (fun r4 S3 => (vp_in v3 (G.2.1 a2) ∧ ∀ S6, S6 = uI S3 a2 v3.toNatClampNeg r4 → (∃ a7, S6.2.2 v0 43 = some a7 ∧ (vp_in v3 (G.2.1 a7) ∧ (if (S6.1 a7 v3.toNatClampNeg) = 0 then (∀ x11 : Int32, x11 = v2 + 0 → (f_X11_layGround_4_n G v0 v1 Q n) x11 (v3 + 1) S6) else (∀ x10 : Int32, x10 = v2 + 1 → (f_X11_layGround_4_n G v0 v1 Q n) x10 (v3 + 1) S6)))))) S))
def f_X11_layGround_4 (G : Gm) (v0 : Nat) (v1 : Int32) (Q : Int32 → St → Prop) (v2 : Int32) (v3 : Int32) (S : St) : Prop := ∃ n, f_X11_layGround_4_n G v0 v1 Q n v2 v3 S
def f_X11_layGround (G : Gm) (v0 : Nat) (v1 : Int32) (Q : Int32 → St → Prop) (S : St) : Prop :=
  f_X11_layGround_4 G v0 v1 Q 0 0 S
abbrev rm_X11_layGround : Room := { frames := 7, cells := 0, slots := 0, locals := 165 }
set_option maxHeartbeats 4000000 in
set_option maxRecDepth 100000 in
theorem j_X11_layGround_4_n {p : Program} {l : Launch} {e : Env} {s : State} {m : MethodId} {args : Array Value} {below : List Frame} {meth : Method} {c : Code} {b : Nat} {D : va_G} {cy : Nat → ClassId} {G : Gm} {v0 : Nat} {v1 : Int32} {Q : Int32 → St → Prop} (C : CX p s m args meth c b D cy cX11_layGround RX11 4 (some .int)) (hE : s.heap.size + 0 ≤ b + G.2.2) (t_v0 : ok G 10 v0) : ∀ n (v2 : Int32) (v3 : Int32) S, f_X11_layGround_4_n G v0 v1 Q n v2 v3 S → J p l e rm_X11_layGround s m args below meth c b D cy 4 (zI b D cy below args s G Q) 0 0 G S 4 [(0, .ref (b + v0)), (1, .int v1), (2, .int v2), (3, .int v3)] [] := by
  intro n
  induction n with
  | zero => intro v2 v3 S h; exact h.elim
  | succ n ih =>
    intro v2 v3 S h
    unfold f_X11_layGround_4_n at h
    refine jB C [(.iload_n 3, 1, 0), (.iconst 4, 1, 4)] 6 [(0, .ref (b + v0)), (1, .int v1), (2, .int v2), (3, .int v3)] [.int 4, .int v3] (by decide +kernel) rfl rfl ?_
    refine jIcmp_ge C 9 44 (by decide +kernel : decode cX11_layGround 6 = .ok (.if_icmp .ge 38, 3)) rfl rfl (fun c1 => ?_) (fun c1 => ?_)
    · have h := it1 h c1
      refine jB C [(.iload_n 2, 1, 0)] 45 [(0, .ref (b + v0)), (1, .int v1), (2, .int v2), (3, .int v3)] [.int v2] (by decide +kernel) rfl rfl ?_
      exact jRetI C (by decide +kernel : decode cX11_layGround 45 = .ok (.ireturn, 1)) (Nat.le_refl _) (Nat.le_refl _) ⟨rfl, h⟩
    · have h := it2 h c1
      refine jB C [(.aload_n 0, 1, 0)] 10 [(0, .ref (b + v0)), (1, .int v1), (2, .int v2), (3, .int v3)] [.ref (b + v0)] (by decide +kernel) rfl rfl ?_
      obtain ⟨a2, e_a2, h⟩ := h
      refine jGetR C 13 (by decide +kernel : decode cX11_layGround 10 = .ok (.getfield 114, 3)) rfl t_v0 kX11 43 (by decide) rfl rfl (by decide) wd_1197 e_a2 rfl (fun t_a2 => ?_)
      refine jB C [(.iload_n 3, 1, 0), (.aload_n 0, 1, 0), (.iload_n 1, 1, 0), (.iload_n 3, 1, 0)] 17 [(0, .ref (b + v0)), (1, .int v1), (2, .int v2), (3, .int v3)] [.int v3, .int v1, .ref (b + v0), .int v3, .ref (b + a2)] (by decide +kernel) rfl rfl ?_
      refine jcV_I C 20 (rest := [.int v3, .ref (b + a2)]) (ok_X11_grindsOf t_v0 h) (by decide +kernel : decode cX11_layGround 17 = .ok (.invokevirtual 227, 3)) rfl wd_1441 wd_1443 wp_114 wd_12 wd_1444 ⟨rfl, rfl⟩ hd_X11_grindsOf ⟨Nat.le_of_ble_eq_true rfl, Nat.le_of_ble_eq_true rfl⟩ t_v0 kX11 (by decide) rfl rfl rfl (Nat.le_of_ble_eq_true rfl) ⟨Nat.zero_le _, Nat.zero_le _⟩ (fun r4 S3 h => ?_)
      obtain ⟨y5, h⟩ := h
      refine jIast C 21 (by decide +kernel : decode cX11_layGround 20 = .ok (.iastore, 1)) rfl hE t_a2 y5 ?_
      refine jTopS (fun S6 e_S6 => ?_)
      have h := h S6 e_S6
      refine jB C [(.iload_n 2, 1, 0), (.aload_n 0, 1, 0)] 23 [(0, .ref (b + v0)), (1, .int v1), (2, .int v2), (3, .int v3)] [.ref (b + v0), .int v2] (by decide +kernel) rfl rfl ?_
      obtain ⟨a7, e_a7, h⟩ := h
      refine jGetR C 26 (by decide +kernel : decode cX11_layGround 23 = .ok (.getfield 114, 3)) rfl t_v0 kX11 43 (by decide) rfl rfl (by decide) wd_1197 e_a7 rfl (fun t_a7 => ?_)
      refine jB C [(.iload_n 3, 1, 0)] 27 [(0, .ref (b + v0)), (1, .int v1), (2, .int v2), (3, .int v3)] [.int v3, .ref (b + a7), .int v2] (by decide +kernel) rfl rfl ?_
      obtain ⟨y8, h⟩ := h
      refine jIald C 28 (by decide +kernel : decode cX11_layGround 27 = .ok (.iaload, 1)) rfl t_a7 y8 ?_
      refine jIf_ne C 31 35 (by decide +kernel : decode cX11_layGround 28 = .ok (.ifCond .ne 7, 3)) rfl rfl (fun c9 => ?_) (fun c9 => ?_)
      · have h := it2 h c9
        refine jB C [(.iconst 1, 1, 1), (.iadd, 1, 0)] 37 [(0, .ref (b + v0)), (1, .int v1), (2, .int v2), (3, .int v3)] [.int (v2 + 1)] (by decide +kernel) rfl rfl ?_
        refine jTopI (fun x10 e_x10 => ?_)
        have h := h x10 e_x10
        refine jB C [(.istore_n 2, 1, 0), (.iinc 3 1, 3, 1)] 41 [(3, .int (v3 + 1)), (2, .int x10), (0, .ref (b + v0)), (1, .int v1)] [] (by decide +kernel) rfl rfl ?_
        refine jGoto C 4 (by decide +kernel : decode cX11_layGround 41 = .ok (.goto (-37), 3)) rfl ?_
        refine jSub [2, 3, 1, 0] rfl ?_
        exact ih x10 (v3 + 1) S6 h
      · have h := it1 h c9
        refine jB C [(.iconst 0, 1, 0)] 32 [(0, .ref (b + v0)), (1, .int v1), (2, .int v2), (3, .int v3)] [.int 0, .int v2] (by decide +kernel) rfl rfl ?_
        refine jGoto C 36 (by decide +kernel : decode cX11_layGround 32 = .ok (.goto 4, 3)) rfl ?_
        refine jB C [(.iadd, 1, 0)] 37 [(0, .ref (b + v0)), (1, .int v1), (2, .int v2), (3, .int v3)] [.int (v2 + 0)] (by decide +kernel) rfl rfl ?_
        refine jTopI (fun x11 e_x11 => ?_)
        have h := h x11 e_x11
        refine jB C [(.istore_n 2, 1, 0), (.iinc 3 1, 3, 1)] 41 [(3, .int (v3 + 1)), (2, .int x11), (0, .ref (b + v0)), (1, .int v1)] [] (by decide +kernel) rfl rfl ?_
        refine jGoto C 4 (by decide +kernel : decode cX11_layGround 41 = .ok (.goto (-37), 3)) rfl ?_
        refine jSub [2, 3, 1, 0] rfl ?_
        exact ih x11 (v3 + 1) S6 h
theorem j_X11_layGround_4 {p : Program} {l : Launch} {e : Env} {s : State} {m : MethodId} {args : Array Value} {below : List Frame} {meth : Method} {c : Code} {b : Nat} {D : va_G} {cy : Nat → ClassId} {G : Gm} {v0 : Nat} {v1 : Int32} {v2 : Int32} {v3 : Int32} {S : St} {Q : Int32 → St → Prop} (C : CX p s m args meth c b D cy cX11_layGround RX11 4 (some .int)) (hE : s.heap.size + 0 ≤ b + G.2.2) (t_v0 : ok G 10 v0) (h : f_X11_layGround_4 G v0 v1 Q v2 v3 S) : J p l e rm_X11_layGround s m args below meth c b D cy 4 (zI b D cy below args s G Q) 0 0 G S 4 [(0, .ref (b + v0)), (1, .int v1), (2, .int v2), (3, .int v3)] [] := by
  obtain ⟨n, h⟩ := h
  exact j_X11_layGround_4_n C hE t_v0 n v2 v3 S h
set_option maxHeartbeats 4000000 in
set_option maxRecDepth 100000 in
theorem j_X11_layGround {p : Program} {l : Launch} {e : Env} {s : State} {m : MethodId} {args : Array Value} {below : List Frame} {meth : Method} {c : Code} {b : Nat} {D : va_G} {cy : Nat → ClassId} {G : Gm} {v0 : Nat} {v1 : Int32} {S : St} {Q : Int32 → St → Prop} (C : CX p s m args meth c b D cy cX11_layGround RX11 4 (some .int)) (hE : s.heap.size + 0 ≤ b + G.2.2) (t_v0 : ok G 10 v0) (h : f_X11_layGround G v0 v1 Q S) : J p l e rm_X11_layGround s m args below meth c b D cy 4 (zI b D cy below args s G Q) 0 0 G S 0 [(0, .ref (b + v0)), (1, .int v1)] [] := by
  unfold f_X11_layGround at h
  refine jB C [(.iconst 0, 1, 0), (.istore_n 2, 1, 0), (.iconst 0, 1, 0), (.istore_n 3, 1, 0)] 4 [(3, .int 0), (2, .int 0), (0, .ref (b + v0)), (1, .int v1)] [] (by decide +kernel) rfl rfl ?_
  refine jSub [2, 3, 1, 0] rfl ?_
  exact j_X11_layGround_4 C hE t_v0 h
theorem ok_X11_layGround {G : Gm} {v0 : Nat} {v1 : Int32} {S : St} {Q : Int32 → St → Prop} (t_v0 : ok G 10 v0) (h : f_X11_layGround G v0 v1 Q S) : MT yX11_layGround cX11_layGround 4 (some .int) rm_X11_layGround 0 0 (fun b => [.ref (b + v0), .int v1]) G S (QI (fun r G1 S1 => G1 = G ∧ Q r S1)) := MT.ofJ (by decide) (fun b => [(0, .ref (b + v0)), (1, .int v1)]) (fun b => rfl) (fun b => Nat.le_of_ble_eq_true rfl) (fun l b D cy p e s m below meth c C hE hn => j_X11_layGround C hE t_v0 h)
theorem hd_X11_layGround : yX11_layGround.cls ≠ "java/lang/invoke/MethodHandle" ∧ yX11_layGround.cls ≠ "java/lang/invoke/VarHandle" ∧ (parseMethodDescriptor yX11_layGround.desc).map (fun d => d.parameters.length) = some 1 := by decide +kernel
def f_X11_grindIt_52_n (G : Gm) (v0 : Nat) (v2 : Int32) (Q : Int32 → St → Prop) : Nat → Int32 → Int32 → St → Prop
  | 0, _, _, _ => False
  | n + 1, v3, v4, S => (if 4 ≤ v4 then Q v2 S else (∃ a2, S.2.2 v0 43 = some a2 ∧ (vp_in v4 (G.2.1 a2) ∧ (if (S.1 a2 v4.toNatClampNeg) = 0 then (f_X11_grindIt_52_n G v0 v2 Q n) v3 (v4 + 1) S else (∃ a5, S.2.2 v0 4 = some a5 ∧ (∃ a6, S.2.2 v0 43 = some a6 ∧ (vp_in v4 (G.2.1 a6) ∧ (vp_in v3 (G.2.1 a5) ∧ ∀ S9, S9 = uI S a5 v3.toNatClampNeg (S.1 a6 v4.toNatClampNeg) → (f_X11_grindIt_52_n G v0 v2 Q n) (v3 + 1) (v4 + 1) S9))))))))
def f_X11_grindIt_52 (G : Gm) (v0 : Nat) (v2 : Int32) (Q : Int32 → St → Prop) (v3 : Int32) (v4 : Int32) (S : St) : Prop := ∃ n, f_X11_grindIt_52_n G v0 v2 Q n v3 v4 S
def f_X11_grindIt_27_n (G : Gm) (v0 : Nat) (v2 : Int32) (v3 : Int32) (Q : Int32 → St → Prop) : Nat → Int32 → St → Prop
  | 0, _, _ => False
  | n + 1, v4, S => (if 4 ≤ v4 then f_X11_grindIt_52 G v0 v2 Q v3 0 S else (∃ a2, S.2.2 v0 4 = some a2 ∧ (vp_in (v3 + v4) (G.2.1 a2) ∧ ∀ S4, S4 = uI S a2 (v3 + v4).toNatClampNeg 0 → (f_X11_grindIt_27_n G v0 v2 v3 Q n) (v4 + 1) S4)))
def f_X11_grindIt_27 (G : Gm) (v0 : Nat) (v2 : Int32) (v3 : Int32) (Q : Int32 → St → Prop) (v4 : Int32) (S : St) : Prop := ∃ n, f_X11_grindIt_27_n G v0 v2 v3 Q n v4 S
def f_X11_grindIt (G : Gm) (v0 : Nat) (v1 : Int32) (Q : Int32 → St → Prop) (S : St) : Prop :=
  f_X11_layGround G v0 v1 (fun r2 S1 => (∀ x3 : Int32, x3 = (32 + (5 * v1)) + 1 → (∃ a4, S1.2.2 v0 4 = some a4 ∧ (vp_in (x3 - 1) (G.2.1 a4) ∧ ∀ S6, S6 = uI S1 a4 (x3 - 1).toNatClampNeg r2 → f_X11_grindIt_27 G v0 r2 x3 Q 0 S6)))) S
abbrev rm_X11_grindIt : Room := { frames := 8, cells := 0, slots := 0, locals := 188 }
set_option maxHeartbeats 4000000 in
set_option maxRecDepth 100000 in
theorem j_X11_grindIt_52_n {p : Program} {l : Launch} {e : Env} {s : State} {m : MethodId} {args : Array Value} {below : List Frame} {meth : Method} {c : Code} {b : Nat} {D : va_G} {cy : Nat → ClassId} {G : Gm} {v0 : Nat} {v2 : Int32} {Q : Int32 → St → Prop} (C : CX p s m args meth c b D cy cX11_grindIt RX11 5 (some .int)) (hE : s.heap.size + 0 ≤ b + G.2.2) (t_v0 : ok G 10 v0) : ∀ n (v3 : Int32) (v4 : Int32) S, f_X11_grindIt_52_n G v0 v2 Q n v3 v4 S → J p l e rm_X11_grindIt s m args below meth c b D cy 5 (zI b D cy below args s G Q) 0 0 G S 52 [(0, .ref (b + v0)), (2, .int v2), (3, .int v3), (4, .int v4)] [] := by
  intro n
  induction n with
  | zero => intro v3 v4 S h; exact h.elim
  | succ n ih =>
    intro v3 v4 S h
    unfold f_X11_grindIt_52_n at h
    refine jB C [(.iload 4, 2, 0), (.iconst 4, 1, 4)] 55 [(0, .ref (b + v0)), (2, .int v2), (3, .int v3), (4, .int v4)] [.int 4, .int v4] (by decide +kernel) rfl rfl ?_
    refine jIcmp_ge C 58 90 (by decide +kernel : decode cX11_grindIt 55 = .ok (.if_icmp .ge 35, 3)) rfl rfl (fun c1 => ?_) (fun c1 => ?_)
    · have h := it1 h c1
      refine jB C [(.iload_n 2, 1, 0)] 91 [(0, .ref (b + v0)), (2, .int v2), (3, .int v3), (4, .int v4)] [.int v2] (by decide +kernel) rfl rfl ?_
      exact jRetI C (by decide +kernel : decode cX11_grindIt 91 = .ok (.ireturn, 1)) (Nat.le_refl _) (Nat.le_refl _) ⟨rfl, h⟩
    · have h := it2 h c1
      refine jB C [(.aload_n 0, 1, 0)] 59 [(0, .ref (b + v0)), (2, .int v2), (3, .int v3), (4, .int v4)] [.ref (b + v0)] (by decide +kernel) rfl rfl ?_
      obtain ⟨a2, e_a2, h⟩ := h
      refine jGetR C 62 (by decide +kernel : decode cX11_grindIt 59 = .ok (.getfield 114, 3)) rfl t_v0 kX11 43 (by decide) rfl rfl (by decide) wd_1197 e_a2 rfl (fun t_a2 => ?_)
      refine jB C [(.iload 4, 2, 0)] 64 [(0, .ref (b + v0)), (2, .int v2), (3, .int v3), (4, .int v4)] [.int v4, .ref (b + a2)] (by decide +kernel) rfl rfl ?_
      obtain ⟨y3, h⟩ := h
      refine jIald C 65 (by decide +kernel : decode cX11_grindIt 64 = .ok (.iaload, 1)) rfl t_a2 y3 ?_
      refine jIf_eq C 68 84 (by decide +kernel : decode cX11_grindIt 65 = .ok (.ifCond .eq 19, 3)) rfl rfl (fun c4 => ?_) (fun c4 => ?_)
      · have h := it1 h c4
        refine jB C [(.iinc 4 1, 3, 1)] 87 [(4, .int (v4 + 1)), (0, .ref (b + v0)), (2, .int v2), (3, .int v3)] [] (by decide +kernel) rfl rfl ?_
        refine jGoto C 52 (by decide +kernel : decode cX11_grindIt 87 = .ok (.goto (-35), 3)) rfl ?_
        refine jSub [1, 2, 3, 0] rfl ?_
        exact ih v3 (v4 + 1) S h
      · have h := it2 h c4
        refine jB C [(.aload_n 0, 1, 0)] 69 [(0, .ref (b + v0)), (2, .int v2), (3, .int v3), (4, .int v4)] [.ref (b + v0)] (by decide +kernel) rfl rfl ?_
        obtain ⟨a5, e_a5, h⟩ := h
        refine jGetR C 72 (by decide +kernel : decode cX11_grindIt 69 = .ok (.getfield 16, 3)) rfl t_v0 kX11 4 (by decide) rfl rfl (by decide) wd_1158 e_a5 rfl (fun t_a5 => ?_)
        refine jB C [(.iload_n 3, 1, 0), (.aload_n 0, 1, 0)] 74 [(0, .ref (b + v0)), (2, .int v2), (3, .int v3), (4, .int v4)] [.ref (b + v0), .int v3, .ref (b + a5)] (by decide +kernel) rfl rfl ?_
        obtain ⟨a6, e_a6, h⟩ := h
        refine jGetR C 77 (by decide +kernel : decode cX11_grindIt 74 = .ok (.getfield 114, 3)) rfl t_v0 kX11 43 (by decide) rfl rfl (by decide) wd_1197 e_a6 rfl (fun t_a6 => ?_)
        refine jB C [(.iload 4, 2, 0)] 79 [(0, .ref (b + v0)), (2, .int v2), (3, .int v3), (4, .int v4)] [.int v4, .ref (b + a6), .int v3, .ref (b + a5)] (by decide +kernel) rfl rfl ?_
        obtain ⟨y7, h⟩ := h
        refine jIald C 80 (by decide +kernel : decode cX11_grindIt 79 = .ok (.iaload, 1)) rfl t_a6 y7 ?_
        obtain ⟨y8, h⟩ := h
        refine jIast C 81 (by decide +kernel : decode cX11_grindIt 80 = .ok (.iastore, 1)) rfl hE t_a5 y8 ?_
        refine jTopS (fun S9 e_S9 => ?_)
        have h := h S9 e_S9
        refine jB C [(.iinc 3 1, 3, 1), (.iinc 4 1, 3, 1)] 87 [(4, .int (v4 + 1)), (3, .int (v3 + 1)), (0, .ref (b + v0)), (2, .int v2)] [] (by decide +kernel) rfl rfl ?_
        refine jGoto C 52 (by decide +kernel : decode cX11_grindIt 87 = .ok (.goto (-35), 3)) rfl ?_
        refine jSub [2, 3, 1, 0] rfl ?_
        exact ih (v3 + 1) (v4 + 1) S9 h
theorem j_X11_grindIt_52 {p : Program} {l : Launch} {e : Env} {s : State} {m : MethodId} {args : Array Value} {below : List Frame} {meth : Method} {c : Code} {b : Nat} {D : va_G} {cy : Nat → ClassId} {G : Gm} {v0 : Nat} {v2 : Int32} {v3 : Int32} {v4 : Int32} {S : St} {Q : Int32 → St → Prop} (C : CX p s m args meth c b D cy cX11_grindIt RX11 5 (some .int)) (hE : s.heap.size + 0 ≤ b + G.2.2) (t_v0 : ok G 10 v0) (h : f_X11_grindIt_52 G v0 v2 Q v3 v4 S) : J p l e rm_X11_grindIt s m args below meth c b D cy 5 (zI b D cy below args s G Q) 0 0 G S 52 [(0, .ref (b + v0)), (2, .int v2), (3, .int v3), (4, .int v4)] [] := by
  obtain ⟨n, h⟩ := h
  exact j_X11_grindIt_52_n C hE t_v0 n v3 v4 S h
set_option maxHeartbeats 4000000 in
set_option maxRecDepth 100000 in
theorem j_X11_grindIt_27_n {p : Program} {l : Launch} {e : Env} {s : State} {m : MethodId} {args : Array Value} {below : List Frame} {meth : Method} {c : Code} {b : Nat} {D : va_G} {cy : Nat → ClassId} {G : Gm} {v0 : Nat} {v2 : Int32} {v3 : Int32} {Q : Int32 → St → Prop} (C : CX p s m args meth c b D cy cX11_grindIt RX11 5 (some .int)) (hE : s.heap.size + 0 ≤ b + G.2.2) (t_v0 : ok G 10 v0) : ∀ n (v4 : Int32) S, f_X11_grindIt_27_n G v0 v2 v3 Q n v4 S → J p l e rm_X11_grindIt s m args below meth c b D cy 5 (zI b D cy below args s G Q) 0 0 G S 27 [(0, .ref (b + v0)), (2, .int v2), (3, .int v3), (4, .int v4)] [] := by
  intro n
  induction n with
  | zero => intro v4 S h; exact h.elim
  | succ n ih =>
    intro v4 S h
    unfold f_X11_grindIt_27_n at h
    refine jB C [(.iload 4, 2, 0), (.iconst 4, 1, 4)] 30 [(0, .ref (b + v0)), (2, .int v2), (3, .int v3), (4, .int v4)] [.int 4, .int v4] (by decide +kernel) rfl rfl ?_
    refine jIcmp_ge C 33 49 (by decide +kernel : decode cX11_grindIt 30 = .ok (.if_icmp .ge 19, 3)) rfl rfl (fun c1 => ?_) (fun c1 => ?_)
    · have h := it1 h c1
      refine jB C [(.iconst 0, 1, 0), (.istore 4, 2, 0)] 52 [(4, .int 0), (0, .ref (b + v0)), (2, .int v2), (3, .int v3)] [] (by decide +kernel) rfl rfl ?_
      refine jSub [1, 2, 3, 0] rfl ?_
      exact j_X11_grindIt_52 C hE t_v0 h
    · have h := it2 h c1
      refine jB C [(.aload_n 0, 1, 0)] 34 [(0, .ref (b + v0)), (2, .int v2), (3, .int v3), (4, .int v4)] [.ref (b + v0)] (by decide +kernel) rfl rfl ?_
      obtain ⟨a2, e_a2, h⟩ := h
      refine jGetR C 37 (by decide +kernel : decode cX11_grindIt 34 = .ok (.getfield 16, 3)) rfl t_v0 kX11 4 (by decide) rfl rfl (by decide) wd_1158 e_a2 rfl (fun t_a2 => ?_)
      refine jB C [(.iload_n 3, 1, 0), (.iload 4, 2, 0), (.iadd, 1, 0), (.iconst 0, 1, 0)] 42 [(0, .ref (b + v0)), (2, .int v2), (3, .int v3), (4, .int v4)] [.int 0, .int (v3 + v4), .ref (b + a2)] (by decide +kernel) rfl rfl ?_
      obtain ⟨y3, h⟩ := h
      refine jIast C 43 (by decide +kernel : decode cX11_grindIt 42 = .ok (.iastore, 1)) rfl hE t_a2 y3 ?_
      refine jTopS (fun S4 e_S4 => ?_)
      have h := h S4 e_S4
      refine jB C [(.iinc 4 1, 3, 1)] 46 [(4, .int (v4 + 1)), (0, .ref (b + v0)), (2, .int v2), (3, .int v3)] [] (by decide +kernel) rfl rfl ?_
      refine jGoto C 27 (by decide +kernel : decode cX11_grindIt 46 = .ok (.goto (-19), 3)) rfl ?_
      refine jSub [1, 2, 3, 0] rfl ?_
      exact ih (v4 + 1) S4 h
theorem j_X11_grindIt_27 {p : Program} {l : Launch} {e : Env} {s : State} {m : MethodId} {args : Array Value} {below : List Frame} {meth : Method} {c : Code} {b : Nat} {D : va_G} {cy : Nat → ClassId} {G : Gm} {v0 : Nat} {v2 : Int32} {v3 : Int32} {v4 : Int32} {S : St} {Q : Int32 → St → Prop} (C : CX p s m args meth c b D cy cX11_grindIt RX11 5 (some .int)) (hE : s.heap.size + 0 ≤ b + G.2.2) (t_v0 : ok G 10 v0) (h : f_X11_grindIt_27 G v0 v2 v3 Q v4 S) : J p l e rm_X11_grindIt s m args below meth c b D cy 5 (zI b D cy below args s G Q) 0 0 G S 27 [(0, .ref (b + v0)), (2, .int v2), (3, .int v3), (4, .int v4)] [] := by
  obtain ⟨n, h⟩ := h
  exact j_X11_grindIt_27_n C hE t_v0 n v4 S h
set_option maxHeartbeats 4000000 in
set_option maxRecDepth 100000 in
theorem j_X11_grindIt {p : Program} {l : Launch} {e : Env} {s : State} {m : MethodId} {args : Array Value} {below : List Frame} {meth : Method} {c : Code} {b : Nat} {D : va_G} {cy : Nat → ClassId} {G : Gm} {v0 : Nat} {v1 : Int32} {S : St} {Q : Int32 → St → Prop} (C : CX p s m args meth c b D cy cX11_grindIt RX11 5 (some .int)) (hE : s.heap.size + 0 ≤ b + G.2.2) (t_v0 : ok G 10 v0) (h : f_X11_grindIt G v0 v1 Q S) : J p l e rm_X11_grindIt s m args below meth c b D cy 5 (zI b D cy below args s G Q) 0 0 G S 0 [(0, .ref (b + v0)), (1, .int v1)] [] := by
  unfold f_X11_grindIt at h
  refine jB C [(.aload_n 0, 1, 0), (.iload_n 1, 1, 0)] 2 [(0, .ref (b + v0)), (1, .int v1)] [.int v1, .ref (b + v0)] (by decide +kernel) rfl rfl ?_
  refine jcV_I C 5 (rest := []) (ok_X11_layGround t_v0 h) (by decide +kernel : decode cX11_grindIt 2 = .ok (.invokevirtual 471, 3)) rfl wd_1667 wd_1669 wp_148 wd_12 wd_1670 ⟨rfl, rfl⟩ hd_X11_layGround ⟨Nat.le_of_ble_eq_true rfl, Nat.le_of_ble_eq_true rfl⟩ t_v0 kX11 (by decide) rfl rfl rfl (Nat.le_of_ble_eq_true rfl) ⟨Nat.zero_le _, Nat.zero_le _⟩ (fun r2 S1 h => ?_)
  refine jB C [(.istore_n 2, 1, 0), (.bipush 32, 2, 32), (.iconst 5, 1, 5), (.iload_n 1, 1, 0), (.imul, 1, 0), (.iadd, 1, 0), (.iconst 1, 1, 1), (.iadd, 1, 0)] 14 [(2, .int r2), (0, .ref (b + v0)), (1, .int v1)] [.int ((32 + (5 * v1)) + 1)] (by decide +kernel) rfl rfl ?_
  refine jTopI (fun x3 e_x3 => ?_)
  have h := h x3 e_x3
  refine jB C [(.istore_n 3, 1, 0), (.aload_n 0, 1, 0)] 16 [(3, .int x3), (2, .int r2), (0, .ref (b + v0)), (1, .int v1)] [.ref (b + v0)] (by decide +kernel) rfl rfl ?_
  obtain ⟨a4, e_a4, h⟩ := h
  refine jGetR C 19 (by decide +kernel : decode cX11_grindIt 16 = .ok (.getfield 16, 3)) rfl t_v0 kX11 4 (by decide) rfl rfl (by decide) wd_1158 e_a4 rfl (fun t_a4 => ?_)
  refine jB C [(.iload_n 3, 1, 0), (.iconst 1, 1, 1), (.isub, 1, 0), (.iload_n 2, 1, 0)] 23 [(3, .int x3), (2, .int r2), (0, .ref (b + v0)), (1, .int v1)] [.int r2, .int (x3 - 1), .ref (b + a4)] (by decide +kernel) rfl rfl ?_
  obtain ⟨y5, h⟩ := h
  refine jIast C 24 (by decide +kernel : decode cX11_grindIt 23 = .ok (.iastore, 1)) rfl hE t_a4 y5 ?_
  refine jTopS (fun S6 e_S6 => ?_)
  have h := h S6 e_S6
  refine jB C [(.iconst 0, 1, 0), (.istore 4, 2, 0)] 27 [(4, .int 0), (3, .int x3), (2, .int r2), (0, .ref (b + v0)), (1, .int v1)] [] (by decide +kernel) rfl rfl ?_
  refine jSub [3, 2, 1, 0] rfl ?_
  exact j_X11_grindIt_27 C hE t_v0 h
theorem ok_X11_grindIt {G : Gm} {v0 : Nat} {v1 : Int32} {S : St} {Q : Int32 → St → Prop} (t_v0 : ok G 10 v0) (h : f_X11_grindIt G v0 v1 Q S) : MT yX11_grindIt cX11_grindIt 5 (some .int) rm_X11_grindIt 0 0 (fun b => [.ref (b + v0), .int v1]) G S (QI (fun r G1 S1 => G1 = G ∧ Q r S1)) := MT.ofJ (by decide) (fun b => [(0, .ref (b + v0)), (1, .int v1)]) (fun b => rfl) (fun b => Nat.le_of_ble_eq_true rfl) (fun l b D cy p e s m below meth c C hE hn => j_X11_grindIt C hE t_v0 h)
theorem hd_X11_grindIt : yX11_grindIt.cls ≠ "java/lang/invoke/MethodHandle" ∧ yX11_grindIt.cls ≠ "java/lang/invoke/VarHandle" ∧ (parseMethodDescriptor yX11_grindIt.desc).map (fun d => d.parameters.length) = some 1 := by decide +kernel
def f_X11_grindNow (G : Gm) (v0 : Nat) (v1 : Int32) (Q : Int32 → St → Prop) (S : St) : Prop :=
  f_X11_isPerson G v0 v1 (fun r2 S1 => (if r2 = 0 then Q (-2) S1 else f_X11_isBarred G v0 v1 (fun r5 S4 => (if r5 = 0 then f_X11_remember G v0 1 (fun S7 => f_X11_grindIt G v0 v1 (fun r9 S8 => Q r9 S8) S7) S4 else Q (-3) S4)) S1)) S
abbrev rm_X11_grindNow : Room := { frames := 9, cells := 0, slots := 0, locals := 212 }
set_option maxHeartbeats 4000000 in
set_option maxRecDepth 100000 in
theorem j_X11_grindNow {p : Program} {l : Launch} {e : Env} {s : State} {m : MethodId} {args : Array Value} {below : List Frame} {meth : Method} {c : Code} {b : Nat} {D : va_G} {cy : Nat → ClassId} {G : Gm} {v0 : Nat} {v1 : Int32} {S : St} {Q : Int32 → St → Prop} (C : CX p s m args meth c b D cy cX11_grindNow RX11 2 (some .int)) (hE : s.heap.size + 0 ≤ b + G.2.2) (t_v0 : ok G 10 v0) (h : f_X11_grindNow G v0 v1 Q S) : J p l e rm_X11_grindNow s m args below meth c b D cy 2 (zI b D cy below args s G Q) 0 0 G S 0 [(0, .ref (b + v0)), (1, .int v1)] [] := by
  unfold f_X11_grindNow at h
  refine jB C [(.aload_n 0, 1, 0), (.iload_n 1, 1, 0)] 2 [(0, .ref (b + v0)), (1, .int v1)] [.int v1, .ref (b + v0)] (by decide +kernel) rfl rfl ?_
  refine jcV_I C 5 (rest := []) (ok_X11_isPerson t_v0 h) (by decide +kernel : decode cX11_grindNow 2 = .ok (.invokevirtual 209, 3)) rfl wd_1376 wd_1378 wp_103 wd_12 wd_1379 ⟨rfl, rfl⟩ hd_X11_isPerson ⟨Nat.le_of_ble_eq_true rfl, Nat.le_of_ble_eq_true rfl⟩ t_v0 kX11 (by decide) rfl rfl rfl (Nat.le_of_ble_eq_true rfl) ⟨Nat.zero_le _, Nat.zero_le _⟩ (fun r2 S1 h => ?_)
  refine jIf_ne C 8 11 (by decide +kernel : decode cX11_grindNow 5 = .ok (.ifCond .ne 6, 3)) rfl rfl (fun c3 => ?_) (fun c3 => ?_)
  · have h := it2 h c3
    refine jB C [(.aload_n 0, 1, 0), (.iload_n 1, 1, 0)] 13 [(0, .ref (b + v0)), (1, .int v1)] [.int v1, .ref (b + v0)] (by decide +kernel) rfl rfl ?_
    refine jcV_I C 16 (rest := []) (ok_X11_isBarred t_v0 h) (by decide +kernel : decode cX11_grindNow 13 = .ok (.invokevirtual 221, 3)) rfl wd_1430 wd_1432 wp_113 wd_12 wd_1433 ⟨rfl, rfl⟩ hd_X11_isBarred ⟨Nat.le_of_ble_eq_true rfl, Nat.le_of_ble_eq_true rfl⟩ t_v0 kX11 (by decide) rfl rfl rfl (Nat.le_of_ble_eq_true rfl) ⟨Nat.zero_le _, Nat.zero_le _⟩ (fun r5 S4 h => ?_)
    refine jIf_eq C 19 22 (by decide +kernel : decode cX11_grindNow 16 = .ok (.ifCond .eq 6, 3)) rfl rfl (fun c6 => ?_) (fun c6 => ?_)
    · have h := it1 h c6
      refine jB C [(.aload_n 0, 1, 0), (.iconst 1, 1, 1)] 24 [(0, .ref (b + v0)), (1, .int v1)] [.int 1, .ref (b + v0)] (by decide +kernel) rfl rfl ?_
      refine jcV_V C 27 (rest := []) (ok_X11_remember t_v0 h) (by decide +kernel : decode cX11_grindNow 24 = .ok (.invokevirtual 464, 3)) rfl wd_1647 wd_1649 wp_144 wd_12 wd_1650 ⟨rfl, rfl⟩ hd_X11_remember ⟨Nat.le_of_ble_eq_true rfl, Nat.le_of_ble_eq_true rfl⟩ t_v0 kX11 (by decide) rfl rfl rfl (Nat.le_of_ble_eq_true rfl) ⟨Nat.zero_le _, Nat.zero_le _⟩ (fun S7 h => ?_)
      refine jB C [(.aload_n 0, 1, 0), (.iload_n 1, 1, 0)] 29 [(0, .ref (b + v0)), (1, .int v1)] [.int v1, .ref (b + v0)] (by decide +kernel) rfl rfl ?_
      refine jcV_I C 32 (rest := []) (ok_X11_grindIt t_v0 h) (by decide +kernel : decode cX11_grindNow 29 = .ok (.invokevirtual 474, 3)) rfl wd_1663 wd_1665 wp_147 wd_12 wd_1666 ⟨rfl, rfl⟩ hd_X11_grindIt ⟨Nat.le_of_ble_eq_true rfl, Nat.le_of_ble_eq_true rfl⟩ t_v0 kX11 (by decide) rfl rfl rfl (Nat.le_of_ble_eq_true rfl) ⟨Nat.zero_le _, Nat.zero_le _⟩ (fun r9 S8 h => ?_)
      exact jRetI C (by decide +kernel : decode cX11_grindNow 32 = .ok (.ireturn, 1)) (Nat.le_refl _) (Nat.le_refl _) ⟨rfl, h⟩
    · have h := it2 h c6
      refine jB C [(.bipush (-3), 2, (-3))] 21 [(0, .ref (b + v0)), (1, .int v1)] [.int (-3)] (by decide +kernel) rfl rfl ?_
      exact jRetI C (by decide +kernel : decode cX11_grindNow 21 = .ok (.ireturn, 1)) (Nat.le_refl _) (Nat.le_refl _) ⟨rfl, h⟩
  · have h := it1 h c3
    refine jB C [(.bipush (-2), 2, (-2))] 10 [(0, .ref (b + v0)), (1, .int v1)] [.int (-2)] (by decide +kernel) rfl rfl ?_
    exact jRetI C (by decide +kernel : decode cX11_grindNow 10 = .ok (.ireturn, 1)) (Nat.le_refl _) (Nat.le_refl _) ⟨rfl, h⟩
theorem ok_X11_grindNow {G : Gm} {v0 : Nat} {v1 : Int32} {S : St} {Q : Int32 → St → Prop} (t_v0 : ok G 10 v0) (h : f_X11_grindNow G v0 v1 Q S) : MT yX11_grindNow cX11_grindNow 2 (some .int) rm_X11_grindNow 0 0 (fun b => [.ref (b + v0), .int v1]) G S (QI (fun r G1 S1 => G1 = G ∧ Q r S1)) := MT.ofJ (by decide) (fun b => [(0, .ref (b + v0)), (1, .int v1)]) (fun b => rfl) (fun b => Nat.le_of_ble_eq_true rfl) (fun l b D cy p e s m below meth c C hE hn => j_X11_grindNow C hE t_v0 h)
theorem hd_X11_grindNow : yX11_grindNow.cls ≠ "java/lang/invoke/MethodHandle" ∧ yX11_grindNow.cls ≠ "java/lang/invoke/VarHandle" ∧ (parseMethodDescriptor yX11_grindNow.desc).map (fun d => d.parameters.length) = some 1 := by decide +kernel
def f_X11_putGlass_75_n (G : Gm) (v0 : Nat) (v1 : Int32) (Q : St → Prop) : Nat → Int32 → Int32 → St → Prop
  | 0, _, _, _ => False
  | n + 1, v4, v5, S => (if v5 < 0 then Q S else (∃ a2, S.2.2 v0 4 = some a2 ∧ (vp_in (((32 + (5 * v1)) + 1) + v5) (G.2.1 a2) ∧ ∀ S4, S4 = uI S a2 (((32 + (5 * v1)) + 1) + v5).toNatClampNeg ((v4 - v4 / 10 * 10) - 1) → (∀ x5 : Int32, x5 = v4 / 10 → (f_X11_putGlass_75_n G v0 v1 Q n) x5 (v5 + (-1)) S4))))
def f_X11_putGlass_75 (G : Gm) (v0 : Nat) (v1 : Int32) (Q : St → Prop) (v4 : Int32) (v5 : Int32) (S : St) : Prop := ∃ n, f_X11_putGlass_75_n G v0 v1 Q n v4 v5 S
def f_X11_putGlass_38_n (G : Gm) (v0 : Nat) (v1 : Int32) (v2 : Int32) (v3 : Int32) (Q : St → Prop) : Nat → Int32 → St → Prop
  | 0, _, _ => False
  | n + 1, v4, S => (if 4 ≤ v4 then (∀ x2 : Int32, x2 = v3 - 1 → f_X11_putGlass_75 G v0 v1 Q v2 x2 S) else (∃ a3, S.2.2 v0 4 = some a3 ∧ (vp_in (((32 + (5 * v1)) + 1) + v4) (G.2.1 a3) ∧ ∀ S5, S5 = uI S a3 (((32 + (5 * v1)) + 1) + v4).toNatClampNeg 0 → (f_X11_putGlass_38_n G v0 v1 v2 v3 Q n) (v4 + 1) S5)))
def f_X11_putGlass_38 (G : Gm) (v0 : Nat) (v1 : Int32) (v2 : Int32) (v3 : Int32) (Q : St → Prop) (v4 : Int32) (S : St) : Prop := ∃ n, f_X11_putGlass_38_n G v0 v1 v2 v3 Q n v4 S
def f_X11_putGlass_5_n (G : Gm) (v0 : Nat) (v1 : Int32) (v2 : Int32) (Q : St → Prop) : Nat → Int32 → Int32 → St → Prop
  | 0, _, _, _ => False
  | n + 1, v3, v4, S => (if v4 ≤ 0 then (∃ a2, S.2.2 v0 4 = some a2 ∧ (vp_in (32 + (5 * v1)) (G.2.1 a2) ∧ ∀ S4, S4 = uI S a2 (32 + (5 * v1)).toNatClampNeg v3 → f_X11_putGlass_38 G v0 v1 v2 v3 Q 0 S4)) else (∀ x5 : Int32, x5 = v4 / 10 → (f_X11_putGlass_5_n G v0 v1 v2 Q n) (v3 + 1) x5 S))
def f_X11_putGlass_5 (G : Gm) (v0 : Nat) (v1 : Int32) (v2 : Int32) (Q : St → Prop) (v3 : Int32) (v4 : Int32) (S : St) : Prop := ∃ n, f_X11_putGlass_5_n G v0 v1 v2 Q n v3 v4 S
def f_X11_putGlass (G : Gm) (v0 : Nat) (v1 : Int32) (v2 : Int32) (Q : St → Prop) (S : St) : Prop :=
  f_X11_putGlass_5 G v0 v1 v2 Q 0 v2 S
abbrev rm_X11_putGlass : Room := { frames := 0, cells := 0, slots := 0, locals := 0 }
set_option maxHeartbeats 4000000 in
set_option maxRecDepth 100000 in
theorem j_X11_putGlass_75_n {p : Program} {l : Launch} {e : Env} {s : State} {m : MethodId} {args : Array Value} {below : List Frame} {meth : Method} {c : Code} {b : Nat} {D : va_G} {cy : Nat → ClassId} {G : Gm} {v0 : Nat} {v1 : Int32} {Q : St → Prop} (C : CX p s m args meth c b D cy cX11_putGlass RX11 6 none) (hE : s.heap.size + 0 ≤ b + G.2.2) (t_v0 : ok G 10 v0) : ∀ n (v4 : Int32) (v5 : Int32) S, f_X11_putGlass_75_n G v0 v1 Q n v4 v5 S → J p l e rm_X11_putGlass s m args below meth c b D cy 6 (zV b D cy below args s G Q) 0 0 G S 75 [(0, .ref (b + v0)), (1, .int v1), (4, .int v4), (5, .int v5)] [] := by
  intro n
  induction n with
  | zero => intro v4 v5 S h; exact h.elim
  | succ n ih =>
    intro v4 v5 S h
    unfold f_X11_putGlass_75_n at h
    refine jB C [(.iload 5, 2, 0)] 77 [(0, .ref (b + v0)), (1, .int v1), (4, .int v4), (5, .int v5)] [.int v5] (by decide +kernel) rfl rfl ?_
    refine jIf_lt C 80 116 (by decide +kernel : decode cX11_putGlass 77 = .ok (.ifCond .lt 39, 3)) rfl rfl (fun c1 => ?_) (fun c1 => ?_)
    · have h := it1 h c1
      exact jRetV C (by decide +kernel : decode cX11_putGlass 116 = .ok (.return_, 1)) (Nat.le_refl _) (Nat.le_refl _) ⟨rfl, h⟩
    · have h := it2 h c1
      refine jB C [(.aload_n 0, 1, 0)] 81 [(0, .ref (b + v0)), (1, .int v1), (4, .int v4), (5, .int v5)] [.ref (b + v0)] (by decide +kernel) rfl rfl ?_
      obtain ⟨a2, e_a2, h⟩ := h
      refine jGetR C 84 (by decide +kernel : decode cX11_putGlass 81 = .ok (.getfield 16, 3)) rfl t_v0 kX11 4 (by decide) rfl rfl (by decide) wd_1158 e_a2 rfl (fun t_a2 => ?_)
      refine jB C [(.bipush 32, 2, 32), (.iconst 5, 1, 5), (.iload_n 1, 1, 0), (.imul, 1, 0), (.iadd, 1, 0), (.iconst 1, 1, 1), (.iadd, 1, 0), (.iload 5, 2, 0), (.iadd, 1, 0), (.iload 4, 2, 0), (.bipush 10, 2, 10)] 99 [(0, .ref (b + v0)), (1, .int v1), (4, .int v4), (5, .int v5)] [.int 10, .int v4, .int (((32 + (5 * v1)) + 1) + v5), .ref (b + a2)] (by decide +kernel) rfl rfl ?_
      refine jIrem C 100 (by decide +kernel : decode cX11_putGlass 99 = .ok (.irem, 1)) rfl (by decide) ?_
      refine jB C [(.iconst 1, 1, 1), (.isub, 1, 0)] 102 [(0, .ref (b + v0)), (1, .int v1), (4, .int v4), (5, .int v5)] [.int ((v4 - v4 / 10 * 10) - 1), .int (((32 + (5 * v1)) + 1) + v5), .ref (b + a2)] (by decide +kernel) rfl rfl ?_
      obtain ⟨y3, h⟩ := h
      refine jIast C 103 (by decide +kernel : decode cX11_putGlass 102 = .ok (.iastore, 1)) rfl hE t_a2 y3 ?_
      refine jTopS (fun S4 e_S4 => ?_)
      have h := h S4 e_S4
      refine jB C [(.iload 4, 2, 0), (.bipush 10, 2, 10)] 107 [(0, .ref (b + v0)), (1, .int v1), (4, .int v4), (5, .int v5)] [.int 10, .int v4] (by decide +kernel) rfl rfl ?_
      refine jIdiv C 108 (by decide +kernel : decode cX11_putGlass 107 = .ok (.idiv, 1)) rfl (by decide) ?_
      refine jTopI (fun x5 e_x5 => ?_)
      have h := h x5 e_x5
      refine jB C [(.istore 4, 2, 0), (.iinc 5 (-1), 3, (-1))] 113 [(5, .int (v5 + (-1))), (4, .int x5), (0, .ref (b + v0)), (1, .int v1)] [] (by decide +kernel) rfl rfl ?_
      refine jGoto C 75 (by decide +kernel : decode cX11_putGlass 113 = .ok (.goto (-38), 3)) rfl ?_
      refine jSub [2, 3, 1, 0] rfl ?_
      exact ih x5 (v5 + (-1)) S4 h
theorem j_X11_putGlass_75 {p : Program} {l : Launch} {e : Env} {s : State} {m : MethodId} {args : Array Value} {below : List Frame} {meth : Method} {c : Code} {b : Nat} {D : va_G} {cy : Nat → ClassId} {G : Gm} {v0 : Nat} {v1 : Int32} {v4 : Int32} {v5 : Int32} {S : St} {Q : St → Prop} (C : CX p s m args meth c b D cy cX11_putGlass RX11 6 none) (hE : s.heap.size + 0 ≤ b + G.2.2) (t_v0 : ok G 10 v0) (h : f_X11_putGlass_75 G v0 v1 Q v4 v5 S) : J p l e rm_X11_putGlass s m args below meth c b D cy 6 (zV b D cy below args s G Q) 0 0 G S 75 [(0, .ref (b + v0)), (1, .int v1), (4, .int v4), (5, .int v5)] [] := by
  obtain ⟨n, h⟩ := h
  exact j_X11_putGlass_75_n C hE t_v0 n v4 v5 S h
set_option maxHeartbeats 4000000 in
set_option maxRecDepth 100000 in
theorem j_X11_putGlass_38_n {p : Program} {l : Launch} {e : Env} {s : State} {m : MethodId} {args : Array Value} {below : List Frame} {meth : Method} {c : Code} {b : Nat} {D : va_G} {cy : Nat → ClassId} {G : Gm} {v0 : Nat} {v1 : Int32} {v2 : Int32} {v3 : Int32} {Q : St → Prop} (C : CX p s m args meth c b D cy cX11_putGlass RX11 6 none) (hE : s.heap.size + 0 ≤ b + G.2.2) (t_v0 : ok G 10 v0) : ∀ n (v4 : Int32) S, f_X11_putGlass_38_n G v0 v1 v2 v3 Q n v4 S → J p l e rm_X11_putGlass s m args below meth c b D cy 6 (zV b D cy below args s G Q) 0 0 G S 38 [(0, .ref (b + v0)), (1, .int v1), (2, .int v2), (3, .int v3), (4, .int v4)] [] := by
  intro n
  induction n with
  | zero => intro v4 S h; exact h.elim
  | succ n ih =>
    intro v4 S h
    unfold f_X11_putGlass_38_n at h
    refine jB C [(.iload 4, 2, 0), (.iconst 4, 1, 4)] 41 [(0, .ref (b + v0)), (1, .int v1), (2, .int v2), (3, .int v3), (4, .int v4)] [.int 4, .int v4] (by decide +kernel) rfl rfl ?_
    refine jIcmp_ge C 44 67 (by decide +kernel : decode cX11_putGlass 41 = .ok (.if_icmp .ge 26, 3)) rfl rfl (fun c1 => ?_) (fun c1 => ?_)
    · have h := it1 h c1
      refine jB C [(.iload_n 2, 1, 0), (.istore 4, 2, 0), (.iload_n 3, 1, 0), (.iconst 1, 1, 1), (.isub, 1, 0)] 73 [(4, .int v2), (0, .ref (b + v0)), (1, .int v1), (2, .int v2), (3, .int v3)] [.int (v3 - 1)] (by decide +kernel) rfl rfl ?_
      refine jTopI (fun x2 e_x2 => ?_)
      have h := h x2 e_x2
      refine jB C [(.istore 5, 2, 0)] 75 [(5, .int x2), (4, .int v2), (0, .ref (b + v0)), (1, .int v1), (2, .int v2), (3, .int v3)] [] (by decide +kernel) rfl rfl ?_
      refine jSub [2, 3, 1, 0] rfl ?_
      exact j_X11_putGlass_75 C hE t_v0 h
    · have h := it2 h c1
      refine jB C [(.aload_n 0, 1, 0)] 45 [(0, .ref (b + v0)), (1, .int v1), (2, .int v2), (3, .int v3), (4, .int v4)] [.ref (b + v0)] (by decide +kernel) rfl rfl ?_
      obtain ⟨a3, e_a3, h⟩ := h
      refine jGetR C 48 (by decide +kernel : decode cX11_putGlass 45 = .ok (.getfield 16, 3)) rfl t_v0 kX11 4 (by decide) rfl rfl (by decide) wd_1158 e_a3 rfl (fun t_a3 => ?_)
      refine jB C [(.bipush 32, 2, 32), (.iconst 5, 1, 5), (.iload_n 1, 1, 0), (.imul, 1, 0), (.iadd, 1, 0), (.iconst 1, 1, 1), (.iadd, 1, 0), (.iload 4, 2, 0), (.iadd, 1, 0), (.iconst 0, 1, 0)] 60 [(0, .ref (b + v0)), (1, .int v1), (2, .int v2), (3, .int v3), (4, .int v4)] [.int 0, .int (((32 + (5 * v1)) + 1) + v4), .ref (b + a3)] (by decide +kernel) rfl rfl ?_
      obtain ⟨y4, h⟩ := h
      refine jIast C 61 (by decide +kernel : decode cX11_putGlass 60 = .ok (.iastore, 1)) rfl hE t_a3 y4 ?_
      refine jTopS (fun S5 e_S5 => ?_)
      have h := h S5 e_S5
      refine jB C [(.iinc 4 1, 3, 1)] 64 [(4, .int (v4 + 1)), (0, .ref (b + v0)), (1, .int v1), (2, .int v2), (3, .int v3)] [] (by decide +kernel) rfl rfl ?_
      refine jGoto C 38 (by decide +kernel : decode cX11_putGlass 64 = .ok (.goto (-26), 3)) rfl ?_
      refine jSub [1, 2, 3, 4, 0] rfl ?_
      exact ih (v4 + 1) S5 h
theorem j_X11_putGlass_38 {p : Program} {l : Launch} {e : Env} {s : State} {m : MethodId} {args : Array Value} {below : List Frame} {meth : Method} {c : Code} {b : Nat} {D : va_G} {cy : Nat → ClassId} {G : Gm} {v0 : Nat} {v1 : Int32} {v2 : Int32} {v3 : Int32} {v4 : Int32} {S : St} {Q : St → Prop} (C : CX p s m args meth c b D cy cX11_putGlass RX11 6 none) (hE : s.heap.size + 0 ≤ b + G.2.2) (t_v0 : ok G 10 v0) (h : f_X11_putGlass_38 G v0 v1 v2 v3 Q v4 S) : J p l e rm_X11_putGlass s m args below meth c b D cy 6 (zV b D cy below args s G Q) 0 0 G S 38 [(0, .ref (b + v0)), (1, .int v1), (2, .int v2), (3, .int v3), (4, .int v4)] [] := by
  obtain ⟨n, h⟩ := h
  exact j_X11_putGlass_38_n C hE t_v0 n v4 S h
set_option maxHeartbeats 4000000 in
set_option maxRecDepth 100000 in
theorem j_X11_putGlass_5_n {p : Program} {l : Launch} {e : Env} {s : State} {m : MethodId} {args : Array Value} {below : List Frame} {meth : Method} {c : Code} {b : Nat} {D : va_G} {cy : Nat → ClassId} {G : Gm} {v0 : Nat} {v1 : Int32} {v2 : Int32} {Q : St → Prop} (C : CX p s m args meth c b D cy cX11_putGlass RX11 6 none) (hE : s.heap.size + 0 ≤ b + G.2.2) (t_v0 : ok G 10 v0) : ∀ n (v3 : Int32) (v4 : Int32) S, f_X11_putGlass_5_n G v0 v1 v2 Q n v3 v4 S → J p l e rm_X11_putGlass s m args below meth c b D cy 6 (zV b D cy below args s G Q) 0 0 G S 5 [(0, .ref (b + v0)), (1, .int v1), (2, .int v2), (3, .int v3), (4, .int v4)] [] := by
  intro n
  induction n with
  | zero => intro v3 v4 S h; exact h.elim
  | succ n ih =>
    intro v3 v4 S h
    unfold f_X11_putGlass_5_n at h
    refine jB C [(.iload 4, 2, 0)] 7 [(0, .ref (b + v0)), (1, .int v1), (2, .int v2), (3, .int v3), (4, .int v4)] [.int v4] (by decide +kernel) rfl rfl ?_
    refine jIf_le C 10 23 (by decide +kernel : decode cX11_putGlass 7 = .ok (.ifCond .le 16, 3)) rfl rfl (fun c1 => ?_) (fun c1 => ?_)
    · have h := it1 h c1
      refine jB C [(.aload_n 0, 1, 0)] 24 [(0, .ref (b + v0)), (1, .int v1), (2, .int v2), (3, .int v3), (4, .int v4)] [.ref (b + v0)] (by decide +kernel) rfl rfl ?_
      obtain ⟨a2, e_a2, h⟩ := h
      refine jGetR C 27 (by decide +kernel : decode cX11_putGlass 24 = .ok (.getfield 16, 3)) rfl t_v0 kX11 4 (by decide) rfl rfl (by decide) wd_1158 e_a2 rfl (fun t_a2 => ?_)
      refine jB C [(.bipush 32, 2, 32), (.iconst 5, 1, 5), (.iload_n 1, 1, 0), (.imul, 1, 0), (.iadd, 1, 0), (.iload_n 3, 1, 0)] 34 [(0, .ref (b + v0)), (1, .int v1), (2, .int v2), (3, .int v3), (4, .int v4)] [.int v3, .int (32 + (5 * v1)), .ref (b + a2)] (by decide +kernel) rfl rfl ?_
      obtain ⟨y3, h⟩ := h
      refine jIast C 35 (by decide +kernel : decode cX11_putGlass 34 = .ok (.iastore, 1)) rfl hE t_a2 y3 ?_
      refine jTopS (fun S4 e_S4 => ?_)
      have h := h S4 e_S4
      refine jB C [(.iconst 0, 1, 0), (.istore 4, 2, 0)] 38 [(4, .int 0), (0, .ref (b + v0)), (1, .int v1), (2, .int v2), (3, .int v3)] [] (by decide +kernel) rfl rfl ?_
      refine jSub [1, 2, 3, 4, 0] rfl ?_
      exact j_X11_putGlass_38 C hE t_v0 h
    · have h := it2 h c1
      refine jB C [(.iinc 3 1, 3, 1), (.iload 4, 2, 0), (.bipush 10, 2, 10)] 17 [(3, .int (v3 + 1)), (0, .ref (b + v0)), (1, .int v1), (2, .int v2), (4, .int v4)] [.int 10, .int v4] (by decide +kernel) rfl rfl ?_
      refine jIdiv C 18 (by decide +kernel : decode cX11_putGlass 17 = .ok (.idiv, 1)) rfl (by decide) ?_
      refine jTopI (fun x5 e_x5 => ?_)
      have h := h x5 e_x5
      refine jB C [(.istore 4, 2, 0)] 20 [(4, .int x5), (3, .int (v3 + 1)), (0, .ref (b + v0)), (1, .int v1), (2, .int v2)] [] (by decide +kernel) rfl rfl ?_
      refine jGoto C 5 (by decide +kernel : decode cX11_putGlass 20 = .ok (.goto (-15), 3)) rfl ?_
      refine jSub [2, 3, 4, 1, 0] rfl ?_
      exact ih (v3 + 1) x5 S h
theorem j_X11_putGlass_5 {p : Program} {l : Launch} {e : Env} {s : State} {m : MethodId} {args : Array Value} {below : List Frame} {meth : Method} {c : Code} {b : Nat} {D : va_G} {cy : Nat → ClassId} {G : Gm} {v0 : Nat} {v1 : Int32} {v2 : Int32} {v3 : Int32} {v4 : Int32} {S : St} {Q : St → Prop} (C : CX p s m args meth c b D cy cX11_putGlass RX11 6 none) (hE : s.heap.size + 0 ≤ b + G.2.2) (t_v0 : ok G 10 v0) (h : f_X11_putGlass_5 G v0 v1 v2 Q v3 v4 S) : J p l e rm_X11_putGlass s m args below meth c b D cy 6 (zV b D cy below args s G Q) 0 0 G S 5 [(0, .ref (b + v0)), (1, .int v1), (2, .int v2), (3, .int v3), (4, .int v4)] [] := by
  obtain ⟨n, h⟩ := h
  exact j_X11_putGlass_5_n C hE t_v0 n v3 v4 S h
set_option maxHeartbeats 4000000 in
set_option maxRecDepth 100000 in
theorem j_X11_putGlass {p : Program} {l : Launch} {e : Env} {s : State} {m : MethodId} {args : Array Value} {below : List Frame} {meth : Method} {c : Code} {b : Nat} {D : va_G} {cy : Nat → ClassId} {G : Gm} {v0 : Nat} {v1 : Int32} {v2 : Int32} {S : St} {Q : St → Prop} (C : CX p s m args meth c b D cy cX11_putGlass RX11 6 none) (hE : s.heap.size + 0 ≤ b + G.2.2) (t_v0 : ok G 10 v0) (h : f_X11_putGlass G v0 v1 v2 Q S) : J p l e rm_X11_putGlass s m args below meth c b D cy 6 (zV b D cy below args s G Q) 0 0 G S 0 [(0, .ref (b + v0)), (1, .int v1), (2, .int v2)] [] := by
  unfold f_X11_putGlass at h
  refine jB C [(.iconst 0, 1, 0), (.istore_n 3, 1, 0), (.iload_n 2, 1, 0), (.istore 4, 2, 0)] 5 [(4, .int v2), (3, .int 0), (0, .ref (b + v0)), (1, .int v1), (2, .int v2)] [] (by decide +kernel) rfl rfl ?_
  refine jSub [2, 3, 4, 1, 0] rfl ?_
  exact j_X11_putGlass_5 C hE t_v0 h
theorem ok_X11_putGlass {G : Gm} {v0 : Nat} {v1 : Int32} {v2 : Int32} {S : St} {Q : St → Prop} (t_v0 : ok G 10 v0) (h : f_X11_putGlass G v0 v1 v2 Q S) : MT yX11_putGlass cX11_putGlass 6 none rm_X11_putGlass 0 0 (fun b => [.ref (b + v0), .int v1, .int v2]) G S (QV (fun G1 S1 => G1 = G ∧ Q S1)) := MT.ofJ (by decide) (fun b => [(0, .ref (b + v0)), (1, .int v1), (2, .int v2)]) (fun b => rfl) (fun b => Nat.le_of_ble_eq_true rfl) (fun l b D cy p e s m below meth c C hE hn => j_X11_putGlass C hE t_v0 h)
theorem hd_X11_putGlass : yX11_putGlass.cls ≠ "java/lang/invoke/MethodHandle" ∧ yX11_putGlass.cls ≠ "java/lang/invoke/VarHandle" ∧ (parseMethodDescriptor yX11_putGlass.desc).map (fun d => d.parameters.length) = some 2 := by decide +kernel
def f_X11_clothNow (G : Gm) (v0 : Nat) (v1 : Int32) (Q : Int32 → St → Prop) (S : St) : Prop :=
  f_X11_isPerson G v0 v1 (fun r2 S1 => (if r2 = 0 then Q (-2) S1 else f_X11_lensesOf G v0 v1 (fun r5 S4 => (if r5 = 0 then Q (-3) S4 else f_X11_remember G v0 3 (fun S7 => f_X11_putGlass G v0 v1 0 (fun S8 => Q r5 S8) S7) S4)) S1)) S
abbrev rm_X11_clothNow : Room := { frames := 2, cells := 0, slots := 0, locals := 46 }
set_option maxHeartbeats 4000000 in
set_option maxRecDepth 100000 in
theorem j_X11_clothNow {p : Program} {l : Launch} {e : Env} {s : State} {m : MethodId} {args : Array Value} {below : List Frame} {meth : Method} {c : Code} {b : Nat} {D : va_G} {cy : Nat → ClassId} {G : Gm} {v0 : Nat} {v1 : Int32} {S : St} {Q : Int32 → St → Prop} (C : CX p s m args meth c b D cy cX11_clothNow RX11 3 (some .int)) (hE : s.heap.size + 0 ≤ b + G.2.2) (t_v0 : ok G 10 v0) (h : f_X11_clothNow G v0 v1 Q S) : J p l e rm_X11_clothNow s m args below meth c b D cy 3 (zI b D cy below args s G Q) 0 0 G S 0 [(0, .ref (b + v0)), (1, .int v1)] [] := by
  unfold f_X11_clothNow at h
  refine jB C [(.aload_n 0, 1, 0), (.iload_n 1, 1, 0)] 2 [(0, .ref (b + v0)), (1, .int v1)] [.int v1, .ref (b + v0)] (by decide +kernel) rfl rfl ?_
  refine jcV_I C 5 (rest := []) (ok_X11_isPerson t_v0 h) (by decide +kernel : decode cX11_clothNow 2 = .ok (.invokevirtual 209, 3)) rfl wd_1376 wd_1378 wp_103 wd_12 wd_1379 ⟨rfl, rfl⟩ hd_X11_isPerson ⟨Nat.le_of_ble_eq_true rfl, Nat.le_of_ble_eq_true rfl⟩ t_v0 kX11 (by decide) rfl rfl rfl (Nat.le_of_ble_eq_true rfl) ⟨Nat.zero_le _, Nat.zero_le _⟩ (fun r2 S1 h => ?_)
  refine jIf_ne C 8 11 (by decide +kernel : decode cX11_clothNow 5 = .ok (.ifCond .ne 6, 3)) rfl rfl (fun c3 => ?_) (fun c3 => ?_)
  · have h := it2 h c3
    refine jB C [(.aload_n 0, 1, 0), (.iload_n 1, 1, 0)] 13 [(0, .ref (b + v0)), (1, .int v1)] [.int v1, .ref (b + v0)] (by decide +kernel) rfl rfl ?_
    refine jcV_I C 16 (rest := []) (ok_X11_lensesOf t_v0 h) (by decide +kernel : decode cX11_clothNow 13 = .ok (.invokevirtual 196, 3)) rfl wd_1382 wd_1384 wp_104 wd_12 wd_1385 ⟨rfl, rfl⟩ hd_X11_lensesOf ⟨Nat.le_of_ble_eq_true rfl, Nat.le_of_ble_eq_true rfl⟩ t_v0 kX11 (by decide) rfl rfl rfl (Nat.le_of_ble_eq_true rfl) ⟨Nat.zero_le _, Nat.zero_le _⟩ (fun r5 S4 h => ?_)
    refine jB C [(.istore_n 2, 1, 0), (.iload_n 2, 1, 0)] 18 [(2, .int r5), (0, .ref (b + v0)), (1, .int v1)] [.int r5] (by decide +kernel) rfl rfl ?_
    refine jIf_ne C 21 24 (by decide +kernel : decode cX11_clothNow 18 = .ok (.ifCond .ne 6, 3)) rfl rfl (fun c6 => ?_) (fun c6 => ?_)
    · have h := it2 h c6
      refine jB C [(.aload_n 0, 1, 0), (.iconst 3, 1, 3)] 26 [(2, .int r5), (0, .ref (b + v0)), (1, .int v1)] [.int 3, .ref (b + v0)] (by decide +kernel) rfl rfl ?_
      refine jcV_V C 29 (rest := []) (ok_X11_remember t_v0 h) (by decide +kernel : decode cX11_clothNow 26 = .ok (.invokevirtual 464, 3)) rfl wd_1647 wd_1649 wp_144 wd_12 wd_1650 ⟨rfl, rfl⟩ hd_X11_remember ⟨Nat.le_of_ble_eq_true rfl, Nat.le_of_ble_eq_true rfl⟩ t_v0 kX11 (by decide) rfl rfl rfl (Nat.le_of_ble_eq_true rfl) ⟨Nat.zero_le _, Nat.zero_le _⟩ (fun S7 h => ?_)
      refine jB C [(.aload_n 0, 1, 0), (.iload_n 1, 1, 0), (.iconst 0, 1, 0)] 32 [(2, .int r5), (0, .ref (b + v0)), (1, .int v1)] [.int 0, .int v1, .ref (b + v0)] (by decide +kernel) rfl rfl ?_
      refine jcV_V C 35 (rest := []) (ok_X11_putGlass t_v0 h) (by decide +kernel : decode cX11_clothNow 32 = .ok (.invokevirtual 238, 3)) rfl wd_1457 wd_1459 wp_116 wd_12 wd_1460 ⟨rfl, rfl⟩ hd_X11_putGlass ⟨Nat.le_of_ble_eq_true rfl, Nat.le_of_ble_eq_true rfl⟩ t_v0 kX11 (by decide) rfl rfl rfl (Nat.le_of_ble_eq_true rfl) ⟨Nat.zero_le _, Nat.zero_le _⟩ (fun S8 h => ?_)
      refine jB C [(.iload_n 2, 1, 0)] 36 [(2, .int r5), (0, .ref (b + v0)), (1, .int v1)] [.int r5] (by decide +kernel) rfl rfl ?_
      exact jRetI C (by decide +kernel : decode cX11_clothNow 36 = .ok (.ireturn, 1)) (Nat.le_refl _) (Nat.le_refl _) ⟨rfl, h⟩
    · have h := it1 h c6
      refine jB C [(.bipush (-3), 2, (-3))] 23 [(2, .int r5), (0, .ref (b + v0)), (1, .int v1)] [.int (-3)] (by decide +kernel) rfl rfl ?_
      exact jRetI C (by decide +kernel : decode cX11_clothNow 23 = .ok (.ireturn, 1)) (Nat.le_refl _) (Nat.le_refl _) ⟨rfl, h⟩
  · have h := it1 h c3
    refine jB C [(.bipush (-2), 2, (-2))] 10 [(0, .ref (b + v0)), (1, .int v1)] [.int (-2)] (by decide +kernel) rfl rfl ?_
    exact jRetI C (by decide +kernel : decode cX11_clothNow 10 = .ok (.ireturn, 1)) (Nat.le_refl _) (Nat.le_refl _) ⟨rfl, h⟩
theorem ok_X11_clothNow {G : Gm} {v0 : Nat} {v1 : Int32} {S : St} {Q : Int32 → St → Prop} (t_v0 : ok G 10 v0) (h : f_X11_clothNow G v0 v1 Q S) : MT yX11_clothNow cX11_clothNow 3 (some .int) rm_X11_clothNow 0 0 (fun b => [.ref (b + v0), .int v1]) G S (QI (fun r G1 S1 => G1 = G ∧ Q r S1)) := MT.ofJ (by decide) (fun b => [(0, .ref (b + v0)), (1, .int v1)]) (fun b => rfl) (fun b => Nat.le_of_ble_eq_true rfl) (fun l b D cy p e s m below meth c C hE hn => j_X11_clothNow C hE t_v0 h)
theorem hd_X11_clothNow : yX11_clothNow.cls ≠ "java/lang/invoke/MethodHandle" ∧ yX11_clothNow.cls ≠ "java/lang/invoke/VarHandle" ∧ (parseMethodDescriptor yX11_clothNow.desc).map (fun d => d.parameters.length) = some 1 := by decide +kernel
def f_X11_growsOf (G : Gm) (v0 : Nat) (v1 : Int32) (v2 : Int32) (Q : Int32 → St → Prop) (S : St) : Prop :=
  f_X11_tells G v0 1 v1 v2 (-1) 0 (fun r2 S1 => f_X11_within G r2 (-8) 8 (fun r4 S3 => Q r4 S3) S1) S
abbrev rm_X11_growsOf : Room := { frames := 6, cells := 0, slots := 0, locals := 143 }
set_option maxHeartbeats 4000000 in
set_option maxRecDepth 100000 in
theorem j_X11_growsOf {p : Program} {l : Launch} {e : Env} {s : State} {m : MethodId} {args : Array Value} {below : List Frame} {meth : Method} {c : Code} {b : Nat} {D : va_G} {cy : Nat → ClassId} {G : Gm} {v0 : Nat} {v1 : Int32} {v2 : Int32} {S : St} {Q : Int32 → St → Prop} (C : CX p s m args meth c b D cy cX11_growsOf RX11 3 (some .int)) (hE : s.heap.size + 0 ≤ b + G.2.2) (t_v0 : ok G 10 v0) (h : f_X11_growsOf G v0 v1 v2 Q S) : J p l e rm_X11_growsOf s m args below meth c b D cy 3 (zI b D cy below args s G Q) 0 0 G S 0 [(0, .ref (b + v0)), (1, .int v1), (2, .int v2)] [] := by
  unfold f_X11_growsOf at h
  refine jB C [(.aload_n 0, 1, 0), (.iconst 1, 1, 1), (.iload_n 1, 1, 0), (.iload_n 2, 1, 0), (.iconst (-1), 1, (-1)), (.lconst 0, 1, 0)] 6 [(0, .ref (b + v0)), (1, .int v1), (2, .int v2)] [.long 0, .int (-1), .int v2, .int v1, .int 1, .ref (b + v0)] (by decide +kernel) rfl rfl ?_
  refine jcV_L C 9 (rest := []) (ok_X11_tells t_v0 h) (by decide +kernel : decode cX11_growsOf 6 = .ok (.invokevirtual 454, 3)) rfl wd_1401 wd_1403 wp_108 wd_12 wd_1404 ⟨rfl, rfl⟩ hd_X11_tells ⟨Nat.le_of_ble_eq_true rfl, Nat.le_of_ble_eq_true rfl⟩ t_v0 kX11 (by decide) rfl rfl rfl (Nat.le_of_ble_eq_true rfl) ⟨Nat.zero_le _, Nat.zero_le _⟩ (fun r2 S1 h => ?_)
  refine jB C [(.bipush (-8), 2, (-8)), (.bipush 8, 2, 8)] 13 [(0, .ref (b + v0)), (1, .int v1), (2, .int v2)] [.int 8, .int (-8), .long r2] (by decide +kernel) rfl rfl ?_
  refine jcS_I C 16 (rest := []) (ok_X11_within h) (by decide +kernel : decode cX11_growsOf 13 = .ok (.invokestatic 458, 3)) rfl wd_1427 wd_1428 wd_12 wd_1429 ⟨rfl, rfl⟩ hd_X11_within ⟨Nat.le_of_ble_eq_true rfl, Nat.le_of_ble_eq_true rfl⟩ rfl rfl (Nat.le_of_ble_eq_true rfl) ⟨Nat.zero_le _, Nat.zero_le _⟩ (fun r4 S3 h => ?_)
  exact jRetI C (by decide +kernel : decode cX11_growsOf 16 = .ok (.ireturn, 1)) (Nat.le_refl _) (Nat.le_refl _) ⟨rfl, h⟩
theorem ok_X11_growsOf {G : Gm} {v0 : Nat} {v1 : Int32} {v2 : Int32} {S : St} {Q : Int32 → St → Prop} (t_v0 : ok G 10 v0) (h : f_X11_growsOf G v0 v1 v2 Q S) : MT yX11_growsOf cX11_growsOf 3 (some .int) rm_X11_growsOf 0 0 (fun b => [.ref (b + v0), .int v1, .int v2]) G S (QI (fun r G1 S1 => G1 = G ∧ Q r S1)) := MT.ofJ (by decide) (fun b => [(0, .ref (b + v0)), (1, .int v1), (2, .int v2)]) (fun b => rfl) (fun b => Nat.le_of_ble_eq_true rfl) (fun l b D cy p e s m below meth c C hE hn => j_X11_growsOf C hE t_v0 h)
theorem hd_X11_growsOf : yX11_growsOf.cls ≠ "java/lang/invoke/MethodHandle" ∧ yX11_growsOf.cls ≠ "java/lang/invoke/VarHandle" ∧ (parseMethodDescriptor yX11_growsOf.desc).map (fun d => d.parameters.length) = some 2 := by decide +kernel
def f_X11_passIt_38_n (G : Gm) (v0 : Nat) (Q : St → Prop) : Nat → Int32 → St → Prop
  | 0, _, _ => False
  | n + 1, v1, S => (∃ a1, S.2.2 v0 4 = some a1 ∧ (vp_in 0 (G.2.1 a1) ∧ (if (4 * (S.1 a1 0.toNatClampNeg)) ≤ v1 then (∃ a4, S.2.2 v0 4 = some a4 ∧ (vp_in 4 (G.2.1 a4) ∧ (vp_in 4 (G.2.1 a4) ∧ ∀ S7, S7 = uI S a4 4.toNatClampNeg ((S.1 a4 4.toNatClampNeg) + 1) → Q S7))) else (∃ a8, S.2.2 v0 4 = some a8 ∧ (∃ a9, S.2.2 v0 4 = some a9 ∧ (vp_in (8 + v1) (G.2.1 a9) ∧ (∃ a11, S.2.2 v0 44 = some a11 ∧ (vp_in v1 (G.2.1 a11) ∧ f_X11_within G (((S.1 a9 (8 + v1).toNatClampNeg) + (S.1 a11 v1.toNatClampNeg)).toInt64) 0 8 (fun r14 S13 => (vp_in (8 + v1) (G.2.1 a8) ∧ ∀ S16, S16 = uI S13 a8 (8 + v1).toNatClampNeg r14 → (f_X11_passIt_38_n G v0 Q n) (v1 + 1) S16)) S))))))))
def f_X11_passIt_38 (G : Gm) (v0 : Nat) (Q : St → Prop) (v1 : Int32) (S : St) : Prop := ∃ n, f_X11_passIt_38_n G v0 Q n v1 S
def f_X11_passIt_2_n (G : Gm) (v0 : Nat) (Q : St → Prop) : Nat → Int32 → St → Prop
  | 0, _, _ => False
  | n + 1, v1, S => (∃ a1, S.2.2 v0 4 = some a1 ∧ (vp_in 0 (G.2.1 a1) ∧ (if (4 * (S.1 a1 0.toNatClampNeg)) ≤ v1 then f_X11_passIt_38 G v0 Q 0 S else (∃ a4, S.2.2 v0 44 = some a4 ∧ f_X11_growsOf G v0 (v1 / 4) (v1 - v1 / 4 * 4) (fun r6 S5 => (vp_in v1 (G.2.1 a4) ∧ ∀ S8, S8 = uI S5 a4 v1.toNatClampNeg r6 → (f_X11_passIt_2_n G v0 Q n) (v1 + 1) S8)) S))))
def f_X11_passIt_2 (G : Gm) (v0 : Nat) (Q : St → Prop) (v1 : Int32) (S : St) : Prop := ∃ n, f_X11_passIt_2_n G v0 Q n v1 S
def f_X11_passIt (G : Gm) (v0 : Nat) (Q : St → Prop) (S : St) : Prop :=
  f_X11_passIt_2 G v0 Q 0 S
abbrev rm_X11_passIt : Room := { frames := 7, cells := 0, slots := 0, locals := 165 }
set_option maxHeartbeats 4000000 in
set_option maxRecDepth 100000 in
theorem j_X11_passIt_38_n {p : Program} {l : Launch} {e : Env} {s : State} {m : MethodId} {args : Array Value} {below : List Frame} {meth : Method} {c : Code} {b : Nat} {D : va_G} {cy : Nat → ClassId} {G : Gm} {v0 : Nat} {Q : St → Prop} (C : CX p s m args meth c b D cy cX11_passIt RX11 2 none) (hE : s.heap.size + 0 ≤ b + G.2.2) (t_v0 : ok G 10 v0) : ∀ n (v1 : Int32) S, f_X11_passIt_38_n G v0 Q n v1 S → J p l e rm_X11_passIt s m args below meth c b D cy 2 (zV b D cy below args s G Q) 0 0 G S 38 [(0, .ref (b + v0)), (1, .int v1)] [] := by
  intro n
  induction n with
  | zero => intro v1 S h; exact h.elim
  | succ n ih =>
    intro v1 S h
    unfold f_X11_passIt_38_n at h
    refine jB C [(.iload_n 1, 1, 0), (.iconst 4, 1, 4), (.aload_n 0, 1, 0)] 41 [(0, .ref (b + v0)), (1, .int v1)] [.ref (b + v0), .int 4, .int v1] (by decide +kernel) rfl rfl ?_
    obtain ⟨a1, e_a1, h⟩ := h
    refine jGetR C 44 (by decide +kernel : decode cX11_passIt 41 = .ok (.getfield 16, 3)) rfl t_v0 kX11 4 (by decide) rfl rfl (by decide) wd_1158 e_a1 rfl (fun t_a1 => ?_)
    refine jB C [(.iconst 0, 1, 0)] 45 [(0, .ref (b + v0)), (1, .int v1)] [.int 0, .ref (b + a1), .int 4, .int v1] (by decide +kernel) rfl rfl ?_
    obtain ⟨y2, h⟩ := h
    refine jIald C 46 (by decide +kernel : decode cX11_passIt 45 = .ok (.iaload, 1)) rfl t_a1 y2 ?_
    refine jB C [(.imul, 1, 0)] 47 [(0, .ref (b + v0)), (1, .int v1)] [.int (4 * (S.1 a1 0.toNatClampNeg)), .int v1] (by decide +kernel) rfl rfl ?_
    refine jIcmp_ge C 50 88 (by decide +kernel : decode cX11_passIt 47 = .ok (.if_icmp .ge 41, 3)) rfl rfl (fun c3 => ?_) (fun c3 => ?_)
    · have h := it1 h c3
      refine jB C [(.aload_n 0, 1, 0)] 89 [(0, .ref (b + v0)), (1, .int v1)] [.ref (b + v0)] (by decide +kernel) rfl rfl ?_
      obtain ⟨a4, e_a4, h⟩ := h
      refine jGetR C 92 (by decide +kernel : decode cX11_passIt 89 = .ok (.getfield 16, 3)) rfl t_v0 kX11 4 (by decide) rfl rfl (by decide) wd_1158 e_a4 rfl (fun t_a4 => ?_)
      refine jB C [(.iconst 4, 1, 4), (.dup2, 1, 0)] 94 [(0, .ref (b + v0)), (1, .int v1)] [.int 4, .ref (b + a4), .int 4, .ref (b + a4)] (by decide +kernel) rfl rfl ?_
      obtain ⟨y5, h⟩ := h
      refine jIald C 95 (by decide +kernel : decode cX11_passIt 94 = .ok (.iaload, 1)) rfl t_a4 y5 ?_
      refine jB C [(.iconst 1, 1, 1), (.iadd, 1, 0)] 97 [(0, .ref (b + v0)), (1, .int v1)] [.int ((S.1 a4 4.toNatClampNeg) + 1), .int 4, .ref (b + a4)] (by decide +kernel) rfl rfl ?_
      obtain ⟨y6, h⟩ := h
      refine jIast C 98 (by decide +kernel : decode cX11_passIt 97 = .ok (.iastore, 1)) rfl hE t_a4 y6 ?_
      refine jTopS (fun S7 e_S7 => ?_)
      have h := h S7 e_S7
      exact jRetV C (by decide +kernel : decode cX11_passIt 98 = .ok (.return_, 1)) (Nat.le_refl _) (Nat.le_refl _) ⟨rfl, h⟩
    · have h := it2 h c3
      refine jB C [(.aload_n 0, 1, 0)] 51 [(0, .ref (b + v0)), (1, .int v1)] [.ref (b + v0)] (by decide +kernel) rfl rfl ?_
      obtain ⟨a8, e_a8, h⟩ := h
      refine jGetR C 54 (by decide +kernel : decode cX11_passIt 51 = .ok (.getfield 16, 3)) rfl t_v0 kX11 4 (by decide) rfl rfl (by decide) wd_1158 e_a8 rfl (fun t_a8 => ?_)
      refine jB C [(.bipush 8, 2, 8), (.iload_n 1, 1, 0), (.iadd, 1, 0), (.aload_n 0, 1, 0)] 59 [(0, .ref (b + v0)), (1, .int v1)] [.ref (b + v0), .int (8 + v1), .ref (b + a8)] (by decide +kernel) rfl rfl ?_
      obtain ⟨a9, e_a9, h⟩ := h
      refine jGetR C 62 (by decide +kernel : decode cX11_passIt 59 = .ok (.getfield 16, 3)) rfl t_v0 kX11 4 (by decide) rfl rfl (by decide) wd_1158 e_a9 rfl (fun t_a9 => ?_)
      refine jB C [(.bipush 8, 2, 8), (.iload_n 1, 1, 0), (.iadd, 1, 0)] 66 [(0, .ref (b + v0)), (1, .int v1)] [.int (8 + v1), .ref (b + a9), .int (8 + v1), .ref (b + a8)] (by decide +kernel) rfl rfl ?_
      obtain ⟨y10, h⟩ := h
      refine jIald C 67 (by decide +kernel : decode cX11_passIt 66 = .ok (.iaload, 1)) rfl t_a9 y10 ?_
      refine jB C [(.aload_n 0, 1, 0)] 68 [(0, .ref (b + v0)), (1, .int v1)] [.ref (b + v0), .int (S.1 a9 (8 + v1).toNatClampNeg), .int (8 + v1), .ref (b + a8)] (by decide +kernel) rfl rfl ?_
      obtain ⟨a11, e_a11, h⟩ := h
      refine jGetR C 71 (by decide +kernel : decode cX11_passIt 68 = .ok (.getfield 117, 3)) rfl t_v0 kX11 44 (by decide) rfl rfl (by decide) wd_1198 e_a11 rfl (fun t_a11 => ?_)
      refine jB C [(.iload_n 1, 1, 0)] 72 [(0, .ref (b + v0)), (1, .int v1)] [.int v1, .ref (b + a11), .int (S.1 a9 (8 + v1).toNatClampNeg), .int (8 + v1), .ref (b + a8)] (by decide +kernel) rfl rfl ?_
      obtain ⟨y12, h⟩ := h
      refine jIald C 73 (by decide +kernel : decode cX11_passIt 72 = .ok (.iaload, 1)) rfl t_a11 y12 ?_
      refine jB C [(.iadd, 1, 0), (.i2l, 1, 0), (.iconst 0, 1, 0), (.bipush 8, 2, 8)] 78 [(0, .ref (b + v0)), (1, .int v1)] [.int 8, .int 0, .long (((S.1 a9 (8 + v1).toNatClampNeg) + (S.1 a11 v1.toNatClampNeg)).toInt64), .int (8 + v1), .ref (b + a8)] (by decide +kernel) rfl rfl ?_
      refine jcS_I C 81 (rest := [.int (8 + v1), .ref (b + a8)]) (ok_X11_within h) (by decide +kernel : decode cX11_passIt 78 = .ok (.invokestatic 458, 3)) rfl wd_1427 wd_1428 wd_12 wd_1429 ⟨rfl, rfl⟩ hd_X11_within ⟨Nat.le_of_ble_eq_true rfl, Nat.le_of_ble_eq_true rfl⟩ rfl rfl (Nat.le_of_ble_eq_true rfl) ⟨Nat.zero_le _, Nat.zero_le _⟩ (fun r14 S13 h => ?_)
      obtain ⟨y15, h⟩ := h
      refine jIast C 82 (by decide +kernel : decode cX11_passIt 81 = .ok (.iastore, 1)) rfl hE t_a8 y15 ?_
      refine jTopS (fun S16 e_S16 => ?_)
      have h := h S16 e_S16
      refine jB C [(.iinc 1 1, 3, 1)] 85 [(1, .int (v1 + 1)), (0, .ref (b + v0))] [] (by decide +kernel) rfl rfl ?_
      refine jGoto C 38 (by decide +kernel : decode cX11_passIt 85 = .ok (.goto (-47), 3)) rfl ?_
      refine jSub [1, 0] rfl ?_
      exact ih (v1 + 1) S16 h
theorem j_X11_passIt_38 {p : Program} {l : Launch} {e : Env} {s : State} {m : MethodId} {args : Array Value} {below : List Frame} {meth : Method} {c : Code} {b : Nat} {D : va_G} {cy : Nat → ClassId} {G : Gm} {v0 : Nat} {v1 : Int32} {S : St} {Q : St → Prop} (C : CX p s m args meth c b D cy cX11_passIt RX11 2 none) (hE : s.heap.size + 0 ≤ b + G.2.2) (t_v0 : ok G 10 v0) (h : f_X11_passIt_38 G v0 Q v1 S) : J p l e rm_X11_passIt s m args below meth c b D cy 2 (zV b D cy below args s G Q) 0 0 G S 38 [(0, .ref (b + v0)), (1, .int v1)] [] := by
  obtain ⟨n, h⟩ := h
  exact j_X11_passIt_38_n C hE t_v0 n v1 S h
set_option maxHeartbeats 4000000 in
set_option maxRecDepth 100000 in
theorem j_X11_passIt_2_n {p : Program} {l : Launch} {e : Env} {s : State} {m : MethodId} {args : Array Value} {below : List Frame} {meth : Method} {c : Code} {b : Nat} {D : va_G} {cy : Nat → ClassId} {G : Gm} {v0 : Nat} {Q : St → Prop} (C : CX p s m args meth c b D cy cX11_passIt RX11 2 none) (hE : s.heap.size + 0 ≤ b + G.2.2) (t_v0 : ok G 10 v0) : ∀ n (v1 : Int32) S, f_X11_passIt_2_n G v0 Q n v1 S → J p l e rm_X11_passIt s m args below meth c b D cy 2 (zV b D cy below args s G Q) 0 0 G S 2 [(0, .ref (b + v0)), (1, .int v1)] [] := by
  intro n
  induction n with
  | zero => intro v1 S h; exact h.elim
  | succ n ih =>
    intro v1 S h
    unfold f_X11_passIt_2_n at h
    refine jB C [(.iload_n 1, 1, 0), (.iconst 4, 1, 4), (.aload_n 0, 1, 0)] 5 [(0, .ref (b + v0)), (1, .int v1)] [.ref (b + v0), .int 4, .int v1] (by decide +kernel) rfl rfl ?_
    obtain ⟨a1, e_a1, h⟩ := h
    refine jGetR C 8 (by decide +kernel : decode cX11_passIt 5 = .ok (.getfield 16, 3)) rfl t_v0 kX11 4 (by decide) rfl rfl (by decide) wd_1158 e_a1 rfl (fun t_a1 => ?_)
    refine jB C [(.iconst 0, 1, 0)] 9 [(0, .ref (b + v0)), (1, .int v1)] [.int 0, .ref (b + a1), .int 4, .int v1] (by decide +kernel) rfl rfl ?_
    obtain ⟨y2, h⟩ := h
    refine jIald C 10 (by decide +kernel : decode cX11_passIt 9 = .ok (.iaload, 1)) rfl t_a1 y2 ?_
    refine jB C [(.imul, 1, 0)] 11 [(0, .ref (b + v0)), (1, .int v1)] [.int (4 * (S.1 a1 0.toNatClampNeg)), .int v1] (by decide +kernel) rfl rfl ?_
    refine jIcmp_ge C 14 36 (by decide +kernel : decode cX11_passIt 11 = .ok (.if_icmp .ge 25, 3)) rfl rfl (fun c3 => ?_) (fun c3 => ?_)
    · have h := it1 h c3
      refine jB C [(.iconst 0, 1, 0), (.istore_n 1, 1, 0)] 38 [(1, .int 0), (0, .ref (b + v0))] [] (by decide +kernel) rfl rfl ?_
      refine jSub [1, 0] rfl ?_
      exact j_X11_passIt_38 C hE t_v0 h
    · have h := it2 h c3
      refine jB C [(.aload_n 0, 1, 0)] 15 [(0, .ref (b + v0)), (1, .int v1)] [.ref (b + v0)] (by decide +kernel) rfl rfl ?_
      obtain ⟨a4, e_a4, h⟩ := h
      refine jGetR C 18 (by decide +kernel : decode cX11_passIt 15 = .ok (.getfield 117, 3)) rfl t_v0 kX11 44 (by decide) rfl rfl (by decide) wd_1198 e_a4 rfl (fun t_a4 => ?_)
      refine jB C [(.iload_n 1, 1, 0), (.aload_n 0, 1, 0), (.iload_n 1, 1, 0), (.iconst 4, 1, 4)] 22 [(0, .ref (b + v0)), (1, .int v1)] [.int 4, .int v1, .ref (b + v0), .int v1, .ref (b + a4)] (by decide +kernel) rfl rfl ?_
      refine jIdiv C 23 (by decide +kernel : decode cX11_passIt 22 = .ok (.idiv, 1)) rfl (by decide) ?_
      refine jB C [(.iload_n 1, 1, 0), (.iconst 4, 1, 4)] 25 [(0, .ref (b + v0)), (1, .int v1)] [.int 4, .int v1, .int (v1 / 4), .ref (b + v0), .int v1, .ref (b + a4)] (by decide +kernel) rfl rfl ?_
      refine jIrem C 26 (by decide +kernel : decode cX11_passIt 25 = .ok (.irem, 1)) rfl (by decide) ?_
      refine jcV_I C 29 (rest := [.int v1, .ref (b + a4)]) (ok_X11_growsOf t_v0 h) (by decide +kernel : decode cX11_passIt 26 = .ok (.invokevirtual 230, 3)) rfl wd_1445 wd_1447 wp_115 wd_12 wd_1448 ⟨rfl, rfl⟩ hd_X11_growsOf ⟨Nat.le_of_ble_eq_true rfl, Nat.le_of_ble_eq_true rfl⟩ t_v0 kX11 (by decide) rfl rfl rfl (Nat.le_of_ble_eq_true rfl) ⟨Nat.zero_le _, Nat.zero_le _⟩ (fun r6 S5 h => ?_)
      obtain ⟨y7, h⟩ := h
      refine jIast C 30 (by decide +kernel : decode cX11_passIt 29 = .ok (.iastore, 1)) rfl hE t_a4 y7 ?_
      refine jTopS (fun S8 e_S8 => ?_)
      have h := h S8 e_S8
      refine jB C [(.iinc 1 1, 3, 1)] 33 [(1, .int (v1 + 1)), (0, .ref (b + v0))] [] (by decide +kernel) rfl rfl ?_
      refine jGoto C 2 (by decide +kernel : decode cX11_passIt 33 = .ok (.goto (-31), 3)) rfl ?_
      refine jSub [1, 0] rfl ?_
      exact ih (v1 + 1) S8 h
theorem j_X11_passIt_2 {p : Program} {l : Launch} {e : Env} {s : State} {m : MethodId} {args : Array Value} {below : List Frame} {meth : Method} {c : Code} {b : Nat} {D : va_G} {cy : Nat → ClassId} {G : Gm} {v0 : Nat} {v1 : Int32} {S : St} {Q : St → Prop} (C : CX p s m args meth c b D cy cX11_passIt RX11 2 none) (hE : s.heap.size + 0 ≤ b + G.2.2) (t_v0 : ok G 10 v0) (h : f_X11_passIt_2 G v0 Q v1 S) : J p l e rm_X11_passIt s m args below meth c b D cy 2 (zV b D cy below args s G Q) 0 0 G S 2 [(0, .ref (b + v0)), (1, .int v1)] [] := by
  obtain ⟨n, h⟩ := h
  exact j_X11_passIt_2_n C hE t_v0 n v1 S h
set_option maxHeartbeats 4000000 in
set_option maxRecDepth 100000 in
theorem j_X11_passIt {p : Program} {l : Launch} {e : Env} {s : State} {m : MethodId} {args : Array Value} {below : List Frame} {meth : Method} {c : Code} {b : Nat} {D : va_G} {cy : Nat → ClassId} {G : Gm} {v0 : Nat} {S : St} {Q : St → Prop} (C : CX p s m args meth c b D cy cX11_passIt RX11 2 none) (hE : s.heap.size + 0 ≤ b + G.2.2) (t_v0 : ok G 10 v0) (h : f_X11_passIt G v0 Q S) : J p l e rm_X11_passIt s m args below meth c b D cy 2 (zV b D cy below args s G Q) 0 0 G S 0 [(0, .ref (b + v0))] [] := by
  unfold f_X11_passIt at h
  refine jB C [(.iconst 0, 1, 0), (.istore_n 1, 1, 0)] 2 [(1, .int 0), (0, .ref (b + v0))] [] (by decide +kernel) rfl rfl ?_
  refine jSub [1, 0] rfl ?_
  exact j_X11_passIt_2 C hE t_v0 h
theorem ok_X11_passIt {G : Gm} {v0 : Nat} {S : St} {Q : St → Prop} (t_v0 : ok G 10 v0) (h : f_X11_passIt G v0 Q S) : MT yX11_passIt cX11_passIt 2 none rm_X11_passIt 0 0 (fun b => [.ref (b + v0)]) G S (QV (fun G1 S1 => G1 = G ∧ Q S1)) := MT.ofJ (by decide) (fun b => [(0, .ref (b + v0))]) (fun b => rfl) (fun b => Nat.le_of_ble_eq_true rfl) (fun l b D cy p e s m below meth c C hE hn => j_X11_passIt C hE t_v0 h)
theorem hd_X11_passIt : yX11_passIt.cls ≠ "java/lang/invoke/MethodHandle" ∧ yX11_passIt.cls ≠ "java/lang/invoke/VarHandle" ∧ (parseMethodDescriptor yX11_passIt.desc).map (fun d => d.parameters.length) = some 0 := by decide +kernel
def f_X11_passNow (G : Gm) (v0 : Nat) (Q : Int32 → St → Prop) (S : St) : Prop :=
  (∃ a1, S.2.2 v0 4 = some a1 ∧ (vp_in 4 (G.2.1 a1) ∧ (if (S.1 a1 4.toNatClampNeg) = 999 then Q (-3) S else f_X11_remember G v0 4 (fun S4 => f_X11_passIt G v0 (fun S5 => (∃ a6, S5.2.2 v0 4 = some a6 ∧ (vp_in 4 (G.2.1 a6) ∧ Q (S5.1 a6 4.toNatClampNeg) S5))) S4) S)))
abbrev rm_X11_passNow : Room := { frames := 8, cells := 0, slots := 0, locals := 186 }
set_option maxHeartbeats 4000000 in
set_option maxRecDepth 100000 in
theorem j_X11_passNow {p : Program} {l : Launch} {e : Env} {s : State} {m : MethodId} {args : Array Value} {below : List Frame} {meth : Method} {c : Code} {b : Nat} {D : va_G} {cy : Nat → ClassId} {G : Gm} {v0 : Nat} {S : St} {Q : Int32 → St → Prop} (C : CX p s m args meth c b D cy cX11_passNow RX11 1 (some .int)) (hE : s.heap.size + 0 ≤ b + G.2.2) (t_v0 : ok G 10 v0) (h : f_X11_passNow G v0 Q S) : J p l e rm_X11_passNow s m args below meth c b D cy 1 (zI b D cy below args s G Q) 0 0 G S 0 [(0, .ref (b + v0))] [] := by
  unfold f_X11_passNow at h
  refine jB C [(.aload_n 0, 1, 0)] 1 [(0, .ref (b + v0))] [.ref (b + v0)] (by decide +kernel) rfl rfl ?_
  obtain ⟨a1, e_a1, h⟩ := h
  refine jGetR C 4 (by decide +kernel : decode cX11_passNow 1 = .ok (.getfield 16, 3)) rfl t_v0 kX11 4 (by decide) rfl rfl (by decide) wd_1158 e_a1 rfl (fun t_a1 => ?_)
  refine jB C [(.iconst 4, 1, 4)] 5 [(0, .ref (b + v0))] [.int 4, .ref (b + a1)] (by decide +kernel) rfl rfl ?_
  obtain ⟨y2, h⟩ := h
  refine jIald C 6 (by decide +kernel : decode cX11_passNow 5 = .ok (.iaload, 1)) rfl t_a1 y2 ?_
  refine jB C [(.sipush 999, 3, 999)] 9 [(0, .ref (b + v0))] [.int 999, .int (S.1 a1 4.toNatClampNeg)] (by decide +kernel) rfl rfl ?_
  refine jIcmp_ne C 12 15 (by decide +kernel : decode cX11_passNow 9 = .ok (.if_icmp .ne 6, 3)) rfl rfl (fun c3 => ?_) (fun c3 => ?_)
  · have h := it2 h c3
    refine jB C [(.aload_n 0, 1, 0), (.iconst 4, 1, 4)] 17 [(0, .ref (b + v0))] [.int 4, .ref (b + v0)] (by decide +kernel) rfl rfl ?_
    refine jcV_V C 20 (rest := []) (ok_X11_remember t_v0 h) (by decide +kernel : decode cX11_passNow 17 = .ok (.invokevirtual 464, 3)) rfl wd_1647 wd_1649 wp_144 wd_12 wd_1650 ⟨rfl, rfl⟩ hd_X11_remember ⟨Nat.le_of_ble_eq_true rfl, Nat.le_of_ble_eq_true rfl⟩ t_v0 kX11 (by decide) rfl rfl rfl (Nat.le_of_ble_eq_true rfl) ⟨Nat.zero_le _, Nat.zero_le _⟩ (fun S4 h => ?_)
    refine jB C [(.aload_n 0, 1, 0)] 21 [(0, .ref (b + v0))] [.ref (b + v0)] (by decide +kernel) rfl rfl ?_
    refine jcV_V C 24 (rest := []) (ok_X11_passIt t_v0 h) (by decide +kernel : decode cX11_passNow 21 = .ok (.invokevirtual 489, 3)) rfl wd_1699 wd_1701 wp_153 wd_12 wd_1702 ⟨rfl, rfl⟩ hd_X11_passIt ⟨Nat.le_of_ble_eq_true rfl, Nat.le_of_ble_eq_true rfl⟩ t_v0 kX11 (by decide) rfl rfl rfl (Nat.le_of_ble_eq_true rfl) ⟨Nat.zero_le _, Nat.zero_le _⟩ (fun S5 h => ?_)
    refine jB C [(.aload_n 0, 1, 0)] 25 [(0, .ref (b + v0))] [.ref (b + v0)] (by decide +kernel) rfl rfl ?_
    obtain ⟨a6, e_a6, h⟩ := h
    refine jGetR C 28 (by decide +kernel : decode cX11_passNow 25 = .ok (.getfield 16, 3)) rfl t_v0 kX11 4 (by decide) rfl rfl (by decide) wd_1158 e_a6 rfl (fun t_a6 => ?_)
    refine jB C [(.iconst 4, 1, 4)] 29 [(0, .ref (b + v0))] [.int 4, .ref (b + a6)] (by decide +kernel) rfl rfl ?_
    obtain ⟨y7, h⟩ := h
    refine jIald C 30 (by decide +kernel : decode cX11_passNow 29 = .ok (.iaload, 1)) rfl t_a6 y7 ?_
    exact jRetI C (by decide +kernel : decode cX11_passNow 30 = .ok (.ireturn, 1)) (Nat.le_refl _) (Nat.le_refl _) ⟨rfl, h⟩
  · have h := it1 h c3
    refine jB C [(.bipush (-3), 2, (-3))] 14 [(0, .ref (b + v0))] [.int (-3)] (by decide +kernel) rfl rfl ?_
    exact jRetI C (by decide +kernel : decode cX11_passNow 14 = .ok (.ireturn, 1)) (Nat.le_refl _) (Nat.le_refl _) ⟨rfl, h⟩
theorem ok_X11_passNow {G : Gm} {v0 : Nat} {S : St} {Q : Int32 → St → Prop} (t_v0 : ok G 10 v0) (h : f_X11_passNow G v0 Q S) : MT yX11_passNow cX11_passNow 1 (some .int) rm_X11_passNow 0 0 (fun b => [.ref (b + v0)]) G S (QI (fun r G1 S1 => G1 = G ∧ Q r S1)) := MT.ofJ (by decide) (fun b => [(0, .ref (b + v0))]) (fun b => rfl) (fun b => Nat.le_of_ble_eq_true rfl) (fun l b D cy p e s m below meth c C hE hn => j_X11_passNow C hE t_v0 h)
theorem hd_X11_passNow : yX11_passNow.cls ≠ "java/lang/invoke/MethodHandle" ∧ yX11_passNow.cls ≠ "java/lang/invoke/VarHandle" ∧ (parseMethodDescriptor yX11_passNow.desc).map (fun d => d.parameters.length) = some 0 := by decide +kernel
def f_X11_act (G : Gm) (v0 : Nat) (v1 : Int32) (v2 : Int32) (v3 : Int32) (Q : Int32 → St → Prop) (S : St) : Prop :=
  (if v1 = 0 then f_X11_sinNow G v0 v2 v3 1 (fun r2 S1 => Q r2 S1) S else (if v1 = 1 then f_X11_swapNow G v0 v2 v3 (fun r4 S3 => Q r4 S3) S else (if v1 = 2 then f_X11_grindNow G v0 v2 (fun r6 S5 => Q r6 S5) S else (if v1 = 3 then f_X11_clothNow G v0 v2 (fun r8 S7 => Q r8 S7) S else f_X11_passNow G v0 (fun r10 S9 => Q r10 S9) S))))
abbrev rm_X11_act : Room := { frames := 10, cells := 0, slots := 0, locals := 233 }
set_option maxHeartbeats 4000000 in
set_option maxRecDepth 100000 in
theorem j_X11_act {p : Program} {l : Launch} {e : Env} {s : State} {m : MethodId} {args : Array Value} {below : List Frame} {meth : Method} {c : Code} {b : Nat} {D : va_G} {cy : Nat → ClassId} {G : Gm} {v0 : Nat} {v1 : Int32} {v2 : Int32} {v3 : Int32} {S : St} {Q : Int32 → St → Prop} (C : CX p s m args meth c b D cy cX11_act RX11 4 (some .int)) (hE : s.heap.size + 0 ≤ b + G.2.2) (t_v0 : ok G 10 v0) (h : f_X11_act G v0 v1 v2 v3 Q S) : J p l e rm_X11_act s m args below meth c b D cy 4 (zI b D cy below args s G Q) 0 0 G S 0 [(0, .ref (b + v0)), (1, .int v1), (2, .int v2), (3, .int v3)] [] := by
  unfold f_X11_act at h
  refine jB C [(.iload_n 1, 1, 0)] 1 [(0, .ref (b + v0)), (1, .int v1), (2, .int v2), (3, .int v3)] [.int v1] (by decide +kernel) rfl rfl ?_
  by_cases c11_0 : v1 = 0
  · have h := it1 h c11_0
    refine jTabIn C 32 0 (by decide +kernel : decode cX11_act 1 = .ok (.tableswitch 58 0 3 #[31, 39, 46, 52], 31)) c11_0 ⟨rfl, rfl, rfl, rfl⟩ ?_
    refine jB C [(.aload_n 0, 1, 0), (.iload_n 2, 1, 0), (.iload_n 3, 1, 0), (.iconst 1, 1, 1)] 36 [(0, .ref (b + v0)), (1, .int v1), (2, .int v2), (3, .int v3)] [.int 1, .int v3, .int v2, .ref (b + v0)] (by decide +kernel) rfl rfl ?_
    refine jcV_I C 39 (rest := []) (ok_X11_sinNow t_v0 h) (by decide +kernel : decode cX11_act 36 = .ok (.invokevirtual 467, 3)) rfl wd_1642 wd_1644 wp_143 wd_12 wd_1645 ⟨rfl, rfl⟩ hd_X11_sinNow ⟨Nat.le_of_ble_eq_true rfl, Nat.le_of_ble_eq_true rfl⟩ t_v0 kX11 (by decide) rfl rfl rfl (Nat.le_of_ble_eq_true rfl) ⟨Nat.zero_le _, Nat.zero_le _⟩ (fun r2 S1 h => ?_)
    exact jRetI C (by decide +kernel : decode cX11_act 39 = .ok (.ireturn, 1)) (Nat.le_refl _) (Nat.le_refl _) ⟨rfl, h⟩
  · have h := it2 h c11_0
    by_cases c11_1 : v1 = 1
    · have h := it1 h c11_1
      refine jTabIn C 40 1 (by decide +kernel : decode cX11_act 1 = .ok (.tableswitch 58 0 3 #[31, 39, 46, 52], 31)) c11_1 ⟨rfl, rfl, rfl, rfl⟩ ?_
      refine jB C [(.aload_n 0, 1, 0), (.iload_n 2, 1, 0), (.iload_n 3, 1, 0)] 43 [(0, .ref (b + v0)), (1, .int v1), (2, .int v2), (3, .int v3)] [.int v3, .int v2, .ref (b + v0)] (by decide +kernel) rfl rfl ?_
      refine jcV_I C 46 (rest := []) (ok_X11_swapNow t_v0 h) (by decide +kernel : decode cX11_act 43 = .ok (.invokevirtual 483, 3)) rfl wd_1675 wd_1677 wp_149 wd_12 wd_1678 ⟨rfl, rfl⟩ hd_X11_swapNow ⟨Nat.le_of_ble_eq_true rfl, Nat.le_of_ble_eq_true rfl⟩ t_v0 kX11 (by decide) rfl rfl rfl (Nat.le_of_ble_eq_true rfl) ⟨Nat.zero_le _, Nat.zero_le _⟩ (fun r4 S3 h => ?_)
      exact jRetI C (by decide +kernel : decode cX11_act 46 = .ok (.ireturn, 1)) (Nat.le_refl _) (Nat.le_refl _) ⟨rfl, h⟩
    · have h := it2 h c11_1
      by_cases c11_2 : v1 = 2
      · have h := it1 h c11_2
        refine jTabIn C 47 2 (by decide +kernel : decode cX11_act 1 = .ok (.tableswitch 58 0 3 #[31, 39, 46, 52], 31)) c11_2 ⟨rfl, rfl, rfl, rfl⟩ ?_
        refine jB C [(.aload_n 0, 1, 0), (.iload_n 2, 1, 0)] 49 [(0, .ref (b + v0)), (1, .int v1), (2, .int v2), (3, .int v3)] [.int v2, .ref (b + v0)] (by decide +kernel) rfl rfl ?_
        refine jcV_I C 52 (rest := []) (ok_X11_grindNow t_v0 h) (by decide +kernel : decode cX11_act 49 = .ok (.invokevirtual 477, 3)) rfl wd_1659 wd_1661 wp_146 wd_12 wd_1662 ⟨rfl, rfl⟩ hd_X11_grindNow ⟨Nat.le_of_ble_eq_true rfl, Nat.le_of_ble_eq_true rfl⟩ t_v0 kX11 (by decide) rfl rfl rfl (Nat.le_of_ble_eq_true rfl) ⟨Nat.zero_le _, Nat.zero_le _⟩ (fun r6 S5 h => ?_)
        exact jRetI C (by decide +kernel : decode cX11_act 52 = .ok (.ireturn, 1)) (Nat.le_refl _) (Nat.le_refl _) ⟨rfl, h⟩
      · have h := it2 h c11_2
        by_cases c11_3 : v1 = 3
        · have h := it1 h c11_3
          refine jTabIn C 53 3 (by decide +kernel : decode cX11_act 1 = .ok (.tableswitch 58 0 3 #[31, 39, 46, 52], 31)) c11_3 ⟨rfl, rfl, rfl, rfl⟩ ?_
          refine jB C [(.aload_n 0, 1, 0), (.iload_n 2, 1, 0)] 55 [(0, .ref (b + v0)), (1, .int v1), (2, .int v2), (3, .int v3)] [.int v2, .ref (b + v0)] (by decide +kernel) rfl rfl ?_
          refine jcV_I C 58 (rest := []) (ok_X11_clothNow t_v0 h) (by decide +kernel : decode cX11_act 55 = .ok (.invokevirtual 486, 3)) rfl wd_1687 wd_1689 wp_151 wd_12 wd_1690 ⟨rfl, rfl⟩ hd_X11_clothNow ⟨Nat.le_of_ble_eq_true rfl, Nat.le_of_ble_eq_true rfl⟩ t_v0 kX11 (by decide) rfl rfl rfl (Nat.le_of_ble_eq_true rfl) ⟨Nat.zero_le _, Nat.zero_le _⟩ (fun r8 S7 h => ?_)
          exact jRetI C (by decide +kernel : decode cX11_act 58 = .ok (.ireturn, 1)) (Nat.le_refl _) (Nat.le_refl _) ⟨rfl, h⟩
        · have h := it2 h c11_3
          refine jTabOut C 59 (by decide +kernel : decode cX11_act 1 = .ok (.tableswitch 58 0 3 #[31, 39, 46, 52], 31)) rfl (by have := lv_neT c11_0 (a := 0) rfl; have := lv_neT c11_1 (a := 1) rfl; have := lv_neT c11_2 (a := 2) rfl; have := lv_neT c11_3 (a := 3) rfl; omega) ?_
          refine jB C [(.aload_n 0, 1, 0)] 60 [(0, .ref (b + v0)), (1, .int v1), (2, .int v2), (3, .int v3)] [.ref (b + v0)] (by decide +kernel) rfl rfl ?_
          refine jcV_I C 63 (rest := []) (ok_X11_passNow t_v0 h) (by decide +kernel : decode cX11_act 60 = .ok (.invokevirtual 492, 3)) rfl wd_1695 wd_1697 wp_152 wd_12 wd_1698 ⟨rfl, rfl⟩ hd_X11_passNow ⟨Nat.le_of_ble_eq_true rfl, Nat.le_of_ble_eq_true rfl⟩ t_v0 kX11 (by decide) rfl rfl rfl (Nat.le_of_ble_eq_true rfl) ⟨Nat.zero_le _, Nat.zero_le _⟩ (fun r10 S9 h => ?_)
          exact jRetI C (by decide +kernel : decode cX11_act 63 = .ok (.ireturn, 1)) (Nat.le_refl _) (Nat.le_refl _) ⟨rfl, h⟩
theorem ok_X11_act {G : Gm} {v0 : Nat} {v1 : Int32} {v2 : Int32} {v3 : Int32} {S : St} {Q : Int32 → St → Prop} (t_v0 : ok G 10 v0) (h : f_X11_act G v0 v1 v2 v3 Q S) : MT yX11_act cX11_act 4 (some .int) rm_X11_act 0 0 (fun b => [.ref (b + v0), .int v1, .int v2, .int v3]) G S (QI (fun r G1 S1 => G1 = G ∧ Q r S1)) := MT.ofJ (by decide) (fun b => [(0, .ref (b + v0)), (1, .int v1), (2, .int v2), (3, .int v3)]) (fun b => rfl) (fun b => Nat.le_of_ble_eq_true rfl) (fun l b D cy p e s m below meth c C hE hn => j_X11_act C hE t_v0 h)
theorem hd_X11_act : yX11_act.cls ≠ "java/lang/invoke/MethodHandle" ∧ yX11_act.cls ≠ "java/lang/invoke/VarHandle" ∧ (parseMethodDescriptor yX11_act.desc).map (fun d => d.parameters.length) = some 3 := by decide +kernel
def f_X11_alike_19_n (G : Gm) (v0 : Nat) (v1 : Int32) (Q : Int32 → St → Prop) : Nat → Int32 → Int32 → St → Prop
  | 0, _, _, _ => False
  | n + 1, v2, v3, S => (∃ a1, S.2.2 v0 4 = some a1 ∧ (vp_in 0 (G.2.1 a1) ∧ (if (S.1 a1 0.toNatClampNeg) ≤ v3 then Q v2 S else f_X11_sightOf G v0 v3 (fun r5 S4 => f_X11_sightOf G v0 v1 (fun r7 S6 => (if r5 = r7 then (∀ x10 : Int32, x10 = v2 + 1 → (f_X11_alike_19_n G v0 v1 Q n) x10 (v3 + 1) S6) else (∀ x9 : Int32, x9 = v2 + 0 → (f_X11_alike_19_n G v0 v1 Q n) x9 (v3 + 1) S6))) S4) S)))
def f_X11_alike_19 (G : Gm) (v0 : Nat) (v1 : Int32) (Q : Int32 → St → Prop) (v2 : Int32) (v3 : Int32) (S : St) : Prop := ∃ n, f_X11_alike_19_n G v0 v1 Q n v2 v3 S
def f_X11_alike (G : Gm) (v0 : Nat) (v1 : Int32) (Q : Int32 → St → Prop) (S : St) : Prop :=
  (∀ S1, S1 = uI S v0 0 0 → f_X11_isPerson G v0 v1 (fun r3 S2 => (if r3 = 0 then Q (-1) S2 else f_X11_alike_19 G v0 v1 Q 0 0 S2)) S1)
abbrev rm_X11_alike : Room := { frames := 3, cells := 0, slots := 0, locals := 66 }
set_option maxHeartbeats 4000000 in
set_option maxRecDepth 100000 in
theorem j_X11_alike_19_n {p : Program} {l : Launch} {e : Env} {s : State} {m : MethodId} {args : Array Value} {below : List Frame} {meth : Method} {c : Code} {b : Nat} {D : va_G} {cy : Nat → ClassId} {G : Gm} {v0 : Nat} {v1 : Int32} {Q : Int32 → St → Prop} (C : CX p s m args meth c b D cy cX11_alike RX11 4 (some .int)) (hE : s.heap.size + 0 ≤ b + G.2.2) (t_v0 : ok G 10 v0) : ∀ n (v2 : Int32) (v3 : Int32) S, f_X11_alike_19_n G v0 v1 Q n v2 v3 S → J p l e rm_X11_alike s m args below meth c b D cy 4 (zI b D cy below args s G Q) 0 0 G S 19 [(0, .ref (b + v0)), (1, .int v1), (2, .int v2), (3, .int v3)] [] := by
  intro n
  induction n with
  | zero => intro v2 v3 S h; exact h.elim
  | succ n ih =>
    intro v2 v3 S h
    unfold f_X11_alike_19_n at h
    refine jB C [(.iload_n 3, 1, 0), (.aload_n 0, 1, 0)] 21 [(0, .ref (b + v0)), (1, .int v1), (2, .int v2), (3, .int v3)] [.ref (b + v0), .int v3] (by decide +kernel) rfl rfl ?_
    obtain ⟨a1, e_a1, h⟩ := h
    refine jGetR C 24 (by decide +kernel : decode cX11_alike 21 = .ok (.getfield 16, 3)) rfl t_v0 kX11 4 (by decide) rfl rfl (by decide) wd_1158 e_a1 rfl (fun t_a1 => ?_)
    refine jB C [(.iconst 0, 1, 0)] 25 [(0, .ref (b + v0)), (1, .int v1), (2, .int v2), (3, .int v3)] [.int 0, .ref (b + a1), .int v3] (by decide +kernel) rfl rfl ?_
    obtain ⟨y2, h⟩ := h
    refine jIald C 26 (by decide +kernel : decode cX11_alike 25 = .ok (.iaload, 1)) rfl t_a1 y2 ?_
    refine jIcmp_ge C 29 56 (by decide +kernel : decode cX11_alike 26 = .ok (.if_icmp .ge 30, 3)) rfl rfl (fun c3 => ?_) (fun c3 => ?_)
    · have h := it1 h c3
      refine jB C [(.iload_n 2, 1, 0)] 57 [(0, .ref (b + v0)), (1, .int v1), (2, .int v2), (3, .int v3)] [.int v2] (by decide +kernel) rfl rfl ?_
      exact jRetI C (by decide +kernel : decode cX11_alike 57 = .ok (.ireturn, 1)) (Nat.le_refl _) (Nat.le_refl _) ⟨rfl, h⟩
    · have h := it2 h c3
      refine jB C [(.iload_n 2, 1, 0), (.aload_n 0, 1, 0), (.iload_n 3, 1, 0)] 32 [(0, .ref (b + v0)), (1, .int v1), (2, .int v2), (3, .int v3)] [.int v3, .ref (b + v0), .int v2] (by decide +kernel) rfl rfl ?_
      refine jcV_I C 35 (rest := [.int v2]) (ok_X11_sightOf t_v0 h) (by decide +kernel : decode cX11_alike 32 = .ok (.invokevirtual 215, 3)) rfl wd_1386 wd_1388 wp_105 wd_12 wd_1389 ⟨rfl, rfl⟩ hd_X11_sightOf ⟨Nat.le_of_ble_eq_true rfl, Nat.le_of_ble_eq_true rfl⟩ t_v0 kX11 (by decide) rfl rfl rfl (Nat.le_of_ble_eq_true rfl) ⟨Nat.zero_le _, Nat.zero_le _⟩ (fun r5 S4 h => ?_)
      refine jB C [(.aload_n 0, 1, 0), (.iload_n 1, 1, 0)] 37 [(0, .ref (b + v0)), (1, .int v1), (2, .int v2), (3, .int v3)] [.int v1, .ref (b + v0), .int r5, .int v2] (by decide +kernel) rfl rfl ?_
      refine jcV_I C 40 (rest := [.int r5, .int v2]) (ok_X11_sightOf t_v0 h) (by decide +kernel : decode cX11_alike 37 = .ok (.invokevirtual 215, 3)) rfl wd_1386 wd_1388 wp_105 wd_12 wd_1389 ⟨rfl, rfl⟩ hd_X11_sightOf ⟨Nat.le_of_ble_eq_true rfl, Nat.le_of_ble_eq_true rfl⟩ t_v0 kX11 (by decide) rfl rfl rfl (Nat.le_of_ble_eq_true rfl) ⟨Nat.zero_le _, Nat.zero_le _⟩ (fun r7 S6 h => ?_)
      refine jIcmp_ne C 43 47 (by decide +kernel : decode cX11_alike 40 = .ok (.if_icmp .ne 7, 3)) rfl rfl (fun c8 => ?_) (fun c8 => ?_)
      · have h := it2 h c8
        refine jB C [(.iconst 0, 1, 0), (.iadd, 1, 0)] 49 [(0, .ref (b + v0)), (1, .int v1), (2, .int v2), (3, .int v3)] [.int (v2 + 0)] (by decide +kernel) rfl rfl ?_
        refine jTopI (fun x9 e_x9 => ?_)
        have h := h x9 e_x9
        refine jB C [(.istore_n 2, 1, 0), (.iinc 3 1, 3, 1)] 53 [(3, .int (v3 + 1)), (2, .int x9), (0, .ref (b + v0)), (1, .int v1)] [] (by decide +kernel) rfl rfl ?_
        refine jGoto C 19 (by decide +kernel : decode cX11_alike 53 = .ok (.goto (-34), 3)) rfl ?_
        refine jSub [2, 3, 1, 0] rfl ?_
        exact ih x9 (v3 + 1) S6 h
      · have h := it1 h c8
        refine jB C [(.iconst 1, 1, 1)] 44 [(0, .ref (b + v0)), (1, .int v1), (2, .int v2), (3, .int v3)] [.int 1, .int v2] (by decide +kernel) rfl rfl ?_
        refine jGoto C 48 (by decide +kernel : decode cX11_alike 44 = .ok (.goto 4, 3)) rfl ?_
        refine jB C [(.iadd, 1, 0)] 49 [(0, .ref (b + v0)), (1, .int v1), (2, .int v2), (3, .int v3)] [.int (v2 + 1)] (by decide +kernel) rfl rfl ?_
        refine jTopI (fun x10 e_x10 => ?_)
        have h := h x10 e_x10
        refine jB C [(.istore_n 2, 1, 0), (.iinc 3 1, 3, 1)] 53 [(3, .int (v3 + 1)), (2, .int x10), (0, .ref (b + v0)), (1, .int v1)] [] (by decide +kernel) rfl rfl ?_
        refine jGoto C 19 (by decide +kernel : decode cX11_alike 53 = .ok (.goto (-34), 3)) rfl ?_
        refine jSub [2, 3, 1, 0] rfl ?_
        exact ih x10 (v3 + 1) S6 h
theorem j_X11_alike_19 {p : Program} {l : Launch} {e : Env} {s : State} {m : MethodId} {args : Array Value} {below : List Frame} {meth : Method} {c : Code} {b : Nat} {D : va_G} {cy : Nat → ClassId} {G : Gm} {v0 : Nat} {v1 : Int32} {v2 : Int32} {v3 : Int32} {S : St} {Q : Int32 → St → Prop} (C : CX p s m args meth c b D cy cX11_alike RX11 4 (some .int)) (hE : s.heap.size + 0 ≤ b + G.2.2) (t_v0 : ok G 10 v0) (h : f_X11_alike_19 G v0 v1 Q v2 v3 S) : J p l e rm_X11_alike s m args below meth c b D cy 4 (zI b D cy below args s G Q) 0 0 G S 19 [(0, .ref (b + v0)), (1, .int v1), (2, .int v2), (3, .int v3)] [] := by
  obtain ⟨n, h⟩ := h
  exact j_X11_alike_19_n C hE t_v0 n v2 v3 S h
set_option maxHeartbeats 4000000 in
set_option maxRecDepth 100000 in
theorem j_X11_alike {p : Program} {l : Launch} {e : Env} {s : State} {m : MethodId} {args : Array Value} {below : List Frame} {meth : Method} {c : Code} {b : Nat} {D : va_G} {cy : Nat → ClassId} {G : Gm} {v0 : Nat} {v1 : Int32} {S : St} {Q : Int32 → St → Prop} (C : CX p s m args meth c b D cy cX11_alike RX11 4 (some .int)) (hE : s.heap.size + 0 ≤ b + G.2.2) (t_v0 : ok G 10 v0) (h : f_X11_alike G v0 v1 Q S) : J p l e rm_X11_alike s m args below meth c b D cy 4 (zI b D cy below args s G Q) 0 0 G S 0 [(0, .ref (b + v0)), (1, .int v1)] [] := by
  unfold f_X11_alike at h
  refine jB C [(.aload_n 0, 1, 0), (.iconst 0, 1, 0)] 2 [(0, .ref (b + v0)), (1, .int v1)] [.int 0, .ref (b + v0)] (by decide +kernel) rfl rfl ?_
  refine jPutI C 5 (by decide +kernel : decode cX11_alike 2 = .ok (.putfield 165, 3)) rfl hE t_v0 kX11 0 (by decide) rfl rfl (by decide) rfl wd_1154 rfl rfl rfl ?_
  refine jTopS (fun S1 e_S1 => ?_)
  have h := h S1 e_S1
  refine jB C [(.aload_n 0, 1, 0), (.iload_n 1, 1, 0)] 7 [(0, .ref (b + v0)), (1, .int v1)] [.int v1, .ref (b + v0)] (by decide +kernel) rfl rfl ?_
  refine jcV_I C 10 (rest := []) (ok_X11_isPerson t_v0 h) (by decide +kernel : decode cX11_alike 7 = .ok (.invokevirtual 209, 3)) rfl wd_1376 wd_1378 wp_103 wd_12 wd_1379 ⟨rfl, rfl⟩ hd_X11_isPerson ⟨Nat.le_of_ble_eq_true rfl, Nat.le_of_ble_eq_true rfl⟩ t_v0 kX11 (by decide) rfl rfl rfl (Nat.le_of_ble_eq_true rfl) ⟨Nat.zero_le _, Nat.zero_le _⟩ (fun r3 S2 h => ?_)
  refine jIf_ne C 13 15 (by decide +kernel : decode cX11_alike 10 = .ok (.ifCond .ne 5, 3)) rfl rfl (fun c4 => ?_) (fun c4 => ?_)
  · have h := it2 h c4
    refine jB C [(.iconst 0, 1, 0), (.istore_n 2, 1, 0), (.iconst 0, 1, 0), (.istore_n 3, 1, 0)] 19 [(3, .int 0), (2, .int 0), (0, .ref (b + v0)), (1, .int v1)] [] (by decide +kernel) rfl rfl ?_
    refine jSub [2, 3, 1, 0] rfl ?_
    exact j_X11_alike_19 C hE t_v0 h
  · have h := it1 h c4
    refine jB C [(.iconst (-1), 1, (-1))] 14 [(0, .ref (b + v0)), (1, .int v1)] [.int (-1)] (by decide +kernel) rfl rfl ?_
    exact jRetI C (by decide +kernel : decode cX11_alike 14 = .ok (.ireturn, 1)) (Nat.le_refl _) (Nat.le_refl _) ⟨rfl, h⟩
theorem ok_X11_alike {G : Gm} {v0 : Nat} {v1 : Int32} {S : St} {Q : Int32 → St → Prop} (t_v0 : ok G 10 v0) (h : f_X11_alike G v0 v1 Q S) : MT yX11_alike cX11_alike 4 (some .int) rm_X11_alike 0 0 (fun b => [.ref (b + v0), .int v1]) G S (QI (fun r G1 S1 => G1 = G ∧ Q r S1)) := MT.ofJ (by decide) (fun b => [(0, .ref (b + v0)), (1, .int v1)]) (fun b => rfl) (fun b => Nat.le_of_ble_eq_true rfl) (fun l b D cy p e s m below meth c C hE hn => j_X11_alike C hE t_v0 h)
theorem hd_X11_alike : yX11_alike.cls ≠ "java/lang/invoke/MethodHandle" ∧ yX11_alike.cls ≠ "java/lang/invoke/VarHandle" ∧ (parseMethodDescriptor yX11_alike.desc).map (fun d => d.parameters.length) = some 1 := by decide +kernel
def f_X11_allSee_4_n (G : Gm) (v0 : Nat) (v1 : Int32) (Q : Int32 → St → Prop) : Nat → Int32 → Int32 → St → Prop
  | 0, _, _, _ => False
  | n + 1, v2, v3, S => (∃ a1, S.2.2 v0 4 = some a1 ∧ (vp_in 1 (G.2.1 a1) ∧ (if (S.1 a1 1.toNatClampNeg) ≤ v3 then ((v2 = 0 ∨ v2 = 1) ∧ Q v2 S) else (if v2 = 0 then ((v2 = 0 ∨ v2 = 1) ∧ Q v2 S) else (∃ a5, S.2.2 v0 4 = some a5 ∧ (vp_in (68 + (2 * v3)) (G.2.1 a5) ∧ f_X11_through G v0 (S.1 a5 (68 + (2 * v3)).toNatClampNeg) v1 (fun r8 S7 => (∃ a9, S7.2.2 v0 4 = some a9 ∧ (vp_in ((68 + (2 * v3)) + 1) (G.2.1 a9) ∧ (if r8 = (S7.1 a9 ((68 + (2 * v3)) + 1).toNatClampNeg) then (f_X11_allSee_4_n G v0 v1 Q n) 1 (v3 + 1) S7 else (f_X11_allSee_4_n G v0 v1 Q n) 0 (v3 + 1) S7)))) S))))))
def f_X11_allSee_4 (G : Gm) (v0 : Nat) (v1 : Int32) (Q : Int32 → St → Prop) (v2 : Int32) (v3 : Int32) (S : St) : Prop := ∃ n, f_X11_allSee_4_n G v0 v1 Q n v2 v3 S
def f_X11_allSee (G : Gm) (v0 : Nat) (v1 : Int32) (Q : Int32 → St → Prop) (S : St) : Prop :=
  f_X11_allSee_4 G v0 v1 Q 1 0 S
abbrev rm_X11_allSee : Room := { frames := 2, cells := 0, slots := 0, locals := 45 }
set_option maxHeartbeats 4000000 in
set_option maxRecDepth 100000 in
theorem j_X11_allSee_4_n {p : Program} {l : Launch} {e : Env} {s : State} {m : MethodId} {args : Array Value} {below : List Frame} {meth : Method} {c : Code} {b : Nat} {D : va_G} {cy : Nat → ClassId} {G : Gm} {v0 : Nat} {v1 : Int32} {Q : Int32 → St → Prop} (C : CX p s m args meth c b D cy cX11_allSee RX11 4 (some .boolean)) (hE : s.heap.size + 0 ≤ b + G.2.2) (t_v0 : ok G 10 v0) : ∀ n (v2 : Int32) (v3 : Int32) S, f_X11_allSee_4_n G v0 v1 Q n v2 v3 S → J p l e rm_X11_allSee s m args below meth c b D cy 4 (zI b D cy below args s G Q) 0 0 G S 4 [(0, .ref (b + v0)), (1, .int v1), (2, .int v2), (3, .int v3)] [] := by
  intro n
  induction n with
  | zero => intro v2 v3 S h; exact h.elim
  | succ n ih =>
    intro v2 v3 S h
    unfold f_X11_allSee_4_n at h
    refine jB C [(.iload_n 3, 1, 0), (.aload_n 0, 1, 0)] 6 [(0, .ref (b + v0)), (1, .int v1), (2, .int v2), (3, .int v3)] [.ref (b + v0), .int v3] (by decide +kernel) rfl rfl ?_
    obtain ⟨a1, e_a1, h⟩ := h
    refine jGetR C 9 (by decide +kernel : decode cX11_allSee 6 = .ok (.getfield 16, 3)) rfl t_v0 kX11 4 (by decide) rfl rfl (by decide) wd_1158 e_a1 rfl (fun t_a1 => ?_)
    refine jB C [(.iconst 1, 1, 1)] 10 [(0, .ref (b + v0)), (1, .int v1), (2, .int v2), (3, .int v3)] [.int 1, .ref (b + a1), .int v3] (by decide +kernel) rfl rfl ?_
    obtain ⟨y2, h⟩ := h
    refine jIald C 11 (by decide +kernel : decode cX11_allSee 10 = .ok (.iaload, 1)) rfl t_a1 y2 ?_
    refine jIcmp_ge C 14 62 (by decide +kernel : decode cX11_allSee 11 = .ok (.if_icmp .ge 51, 3)) rfl rfl (fun c3 => ?_) (fun c3 => ?_)
    · have h := it1 h c3
      refine jB C [(.iload_n 2, 1, 0)] 63 [(0, .ref (b + v0)), (1, .int v1), (2, .int v2), (3, .int v3)] [.int v2] (by decide +kernel) rfl rfl ?_
      exact jRetZ C (by decide +kernel : decode cX11_allSee 63 = .ok (.ireturn, 1)) (Nat.le_refl _) (Nat.le_refl _) h.1 ⟨rfl, h.2⟩
    · have h := it2 h c3
      refine jB C [(.iload_n 2, 1, 0)] 15 [(0, .ref (b + v0)), (1, .int v1), (2, .int v2), (3, .int v3)] [.int v2] (by decide +kernel) rfl rfl ?_
      refine jIf_eq C 18 62 (by decide +kernel : decode cX11_allSee 15 = .ok (.ifCond .eq 47, 3)) rfl rfl (fun c4 => ?_) (fun c4 => ?_)
      · have h := it1 h c4
        refine jB C [(.iload_n 2, 1, 0)] 63 [(0, .ref (b + v0)), (1, .int v1), (2, .int v2), (3, .int v3)] [.int v2] (by decide +kernel) rfl rfl ?_
        exact jRetZ C (by decide +kernel : decode cX11_allSee 63 = .ok (.ireturn, 1)) (Nat.le_refl _) (Nat.le_refl _) h.1 ⟨rfl, h.2⟩
      · have h := it2 h c4
        refine jB C [(.aload_n 0, 1, 0), (.aload_n 0, 1, 0)] 20 [(0, .ref (b + v0)), (1, .int v1), (2, .int v2), (3, .int v3)] [.ref (b + v0), .ref (b + v0)] (by decide +kernel) rfl rfl ?_
        obtain ⟨a5, e_a5, h⟩ := h
        refine jGetR C 23 (by decide +kernel : decode cX11_allSee 20 = .ok (.getfield 16, 3)) rfl t_v0 kX11 4 (by decide) rfl rfl (by decide) wd_1158 e_a5 rfl (fun t_a5 => ?_)
        refine jB C [(.bipush 68, 2, 68), (.iconst 2, 1, 2), (.iload_n 3, 1, 0), (.imul, 1, 0), (.iadd, 1, 0)] 29 [(0, .ref (b + v0)), (1, .int v1), (2, .int v2), (3, .int v3)] [.int (68 + (2 * v3)), .ref (b + a5), .ref (b + v0)] (by decide +kernel) rfl rfl ?_
        obtain ⟨y6, h⟩ := h
        refine jIald C 30 (by decide +kernel : decode cX11_allSee 29 = .ok (.iaload, 1)) rfl t_a5 y6 ?_
        refine jB C [(.iload_n 1, 1, 0)] 31 [(0, .ref (b + v0)), (1, .int v1), (2, .int v2), (3, .int v3)] [.int v1, .int (S.1 a5 (68 + (2 * v3)).toNatClampNeg), .ref (b + v0)] (by decide +kernel) rfl rfl ?_
        refine jcV_I C 34 (rest := []) (ok_X11_through t_v0 h) (by decide +kernel : decode cX11_allSee 31 = .ok (.invokevirtual 199, 3)) rfl wd_1390 wd_1392 wp_106 wd_12 wd_1393 ⟨rfl, rfl⟩ hd_X11_through ⟨Nat.le_of_ble_eq_true rfl, Nat.le_of_ble_eq_true rfl⟩ t_v0 kX11 (by decide) rfl rfl rfl (Nat.le_of_ble_eq_true rfl) ⟨Nat.zero_le _, Nat.zero_le _⟩ (fun r8 S7 h => ?_)
        refine jB C [(.aload_n 0, 1, 0)] 35 [(0, .ref (b + v0)), (1, .int v1), (2, .int v2), (3, .int v3)] [.ref (b + v0), .int r8] (by decide +kernel) rfl rfl ?_
        obtain ⟨a9, e_a9, h⟩ := h
        refine jGetR C 38 (by decide +kernel : decode cX11_allSee 35 = .ok (.getfield 16, 3)) rfl t_v0 kX11 4 (by decide) rfl rfl (by decide) wd_1158 e_a9 rfl (fun t_a9 => ?_)
        refine jB C [(.bipush 68, 2, 68), (.iconst 2, 1, 2), (.iload_n 3, 1, 0), (.imul, 1, 0), (.iadd, 1, 0), (.iconst 1, 1, 1), (.iadd, 1, 0)] 46 [(0, .ref (b + v0)), (1, .int v1), (2, .int v2), (3, .int v3)] [.int ((68 + (2 * v3)) + 1), .ref (b + a9), .int r8] (by decide +kernel) rfl rfl ?_
        obtain ⟨y10, h⟩ := h
        refine jIald C 47 (by decide +kernel : decode cX11_allSee 46 = .ok (.iaload, 1)) rfl t_a9 y10 ?_
        refine jIcmp_ne C 50 54 (by decide +kernel : decode cX11_allSee 47 = .ok (.if_icmp .ne 7, 3)) rfl rfl (fun c11 => ?_) (fun c11 => ?_)
        · have h := it2 h c11
          refine jB C [(.iconst 0, 1, 0), (.istore_n 2, 1, 0), (.iinc 3 1, 3, 1)] 59 [(3, .int (v3 + 1)), (2, .int 0), (0, .ref (b + v0)), (1, .int v1)] [] (by decide +kernel) rfl rfl ?_
          refine jGoto C 4 (by decide +kernel : decode cX11_allSee 59 = .ok (.goto (-55), 3)) rfl ?_
          refine jSub [2, 3, 1, 0] rfl ?_
          exact ih 0 (v3 + 1) S7 h
        · have h := it1 h c11
          refine jB C [(.iconst 1, 1, 1)] 51 [(0, .ref (b + v0)), (1, .int v1), (2, .int v2), (3, .int v3)] [.int 1] (by decide +kernel) rfl rfl ?_
          refine jGoto C 55 (by decide +kernel : decode cX11_allSee 51 = .ok (.goto 4, 3)) rfl ?_
          refine jB C [(.istore_n 2, 1, 0), (.iinc 3 1, 3, 1)] 59 [(3, .int (v3 + 1)), (2, .int 1), (0, .ref (b + v0)), (1, .int v1)] [] (by decide +kernel) rfl rfl ?_
          refine jGoto C 4 (by decide +kernel : decode cX11_allSee 59 = .ok (.goto (-55), 3)) rfl ?_
          refine jSub [2, 3, 1, 0] rfl ?_
          exact ih 1 (v3 + 1) S7 h
theorem j_X11_allSee_4 {p : Program} {l : Launch} {e : Env} {s : State} {m : MethodId} {args : Array Value} {below : List Frame} {meth : Method} {c : Code} {b : Nat} {D : va_G} {cy : Nat → ClassId} {G : Gm} {v0 : Nat} {v1 : Int32} {v2 : Int32} {v3 : Int32} {S : St} {Q : Int32 → St → Prop} (C : CX p s m args meth c b D cy cX11_allSee RX11 4 (some .boolean)) (hE : s.heap.size + 0 ≤ b + G.2.2) (t_v0 : ok G 10 v0) (h : f_X11_allSee_4 G v0 v1 Q v2 v3 S) : J p l e rm_X11_allSee s m args below meth c b D cy 4 (zI b D cy below args s G Q) 0 0 G S 4 [(0, .ref (b + v0)), (1, .int v1), (2, .int v2), (3, .int v3)] [] := by
  obtain ⟨n, h⟩ := h
  exact j_X11_allSee_4_n C hE t_v0 n v2 v3 S h
set_option maxHeartbeats 4000000 in
set_option maxRecDepth 100000 in
theorem j_X11_allSee {p : Program} {l : Launch} {e : Env} {s : State} {m : MethodId} {args : Array Value} {below : List Frame} {meth : Method} {c : Code} {b : Nat} {D : va_G} {cy : Nat → ClassId} {G : Gm} {v0 : Nat} {v1 : Int32} {S : St} {Q : Int32 → St → Prop} (C : CX p s m args meth c b D cy cX11_allSee RX11 4 (some .boolean)) (hE : s.heap.size + 0 ≤ b + G.2.2) (t_v0 : ok G 10 v0) (h : f_X11_allSee G v0 v1 Q S) : J p l e rm_X11_allSee s m args below meth c b D cy 4 (zI b D cy below args s G Q) 0 0 G S 0 [(0, .ref (b + v0)), (1, .int v1)] [] := by
  unfold f_X11_allSee at h
  refine jB C [(.iconst 1, 1, 1), (.istore_n 2, 1, 0), (.iconst 0, 1, 0), (.istore_n 3, 1, 0)] 4 [(3, .int 0), (2, .int 1), (0, .ref (b + v0)), (1, .int v1)] [] (by decide +kernel) rfl rfl ?_
  refine jSub [2, 3, 1, 0] rfl ?_
  exact j_X11_allSee_4 C hE t_v0 h
theorem ok_X11_allSee {G : Gm} {v0 : Nat} {v1 : Int32} {S : St} {Q : Int32 → St → Prop} (t_v0 : ok G 10 v0) (h : f_X11_allSee G v0 v1 Q S) : MT yX11_allSee cX11_allSee 4 (some .boolean) rm_X11_allSee 0 0 (fun b => [.ref (b + v0), .int v1]) G S (QI (fun r G1 S1 => G1 = G ∧ Q r S1)) := MT.ofJ (by decide) (fun b => [(0, .ref (b + v0)), (1, .int v1)]) (fun b => rfl) (fun b => Nat.le_of_ble_eq_true rfl) (fun l b D cy p e s m below meth c C hE hn => j_X11_allSee C hE t_v0 h)
theorem hd_X11_allSee : yX11_allSee.cls ≠ "java/lang/invoke/MethodHandle" ∧ yX11_allSee.cls ≠ "java/lang/invoke/VarHandle" ∧ (parseMethodDescriptor yX11_allSee.desc).map (fun d => d.parameters.length) = some 1 := by decide +kernel
def f_X11_allSins_4_n (G : Gm) (v0 : Nat) (Q : Int32 → St → Prop) : Nat → Int32 → Int32 → St → Prop
  | 0, _, _, _ => False
  | n + 1, v1, v2, S => (∃ a1, S.2.2 v0 4 = some a1 ∧ (vp_in 0 (G.2.1 a1) ∧ (if (S.1 a1 0.toNatClampNeg) ≤ v2 then Q v1 S else f_X11_sinsOf G v0 v2 (fun r5 S4 => (∀ x6 : Int32, x6 = v1 + r5 → (f_X11_allSins_4_n G v0 Q n) x6 (v2 + 1) S4)) S)))
def f_X11_allSins_4 (G : Gm) (v0 : Nat) (Q : Int32 → St → Prop) (v1 : Int32) (v2 : Int32) (S : St) : Prop := ∃ n, f_X11_allSins_4_n G v0 Q n v1 v2 S
def f_X11_allSins (G : Gm) (v0 : Nat) (Q : Int32 → St → Prop) (S : St) : Prop :=
  f_X11_allSins_4 G v0 Q 0 0 S
abbrev rm_X11_allSins : Room := { frames := 1, cells := 0, slots := 0, locals := 23 }
set_option maxHeartbeats 4000000 in
set_option maxRecDepth 100000 in
theorem j_X11_allSins_4_n {p : Program} {l : Launch} {e : Env} {s : State} {m : MethodId} {args : Array Value} {below : List Frame} {meth : Method} {c : Code} {b : Nat} {D : va_G} {cy : Nat → ClassId} {G : Gm} {v0 : Nat} {Q : Int32 → St → Prop} (C : CX p s m args meth c b D cy cX11_allSins RX11 3 (some .int)) (hE : s.heap.size + 0 ≤ b + G.2.2) (t_v0 : ok G 10 v0) : ∀ n (v1 : Int32) (v2 : Int32) S, f_X11_allSins_4_n G v0 Q n v1 v2 S → J p l e rm_X11_allSins s m args below meth c b D cy 3 (zI b D cy below args s G Q) 0 0 G S 4 [(0, .ref (b + v0)), (1, .int v1), (2, .int v2)] [] := by
  intro n
  induction n with
  | zero => intro v1 v2 S h; exact h.elim
  | succ n ih =>
    intro v1 v2 S h
    unfold f_X11_allSins_4_n at h
    refine jB C [(.iload_n 2, 1, 0), (.aload_n 0, 1, 0)] 6 [(0, .ref (b + v0)), (1, .int v1), (2, .int v2)] [.ref (b + v0), .int v2] (by decide +kernel) rfl rfl ?_
    obtain ⟨a1, e_a1, h⟩ := h
    refine jGetR C 9 (by decide +kernel : decode cX11_allSins 6 = .ok (.getfield 16, 3)) rfl t_v0 kX11 4 (by decide) rfl rfl (by decide) wd_1158 e_a1 rfl (fun t_a1 => ?_)
    refine jB C [(.iconst 0, 1, 0)] 10 [(0, .ref (b + v0)), (1, .int v1), (2, .int v2)] [.int 0, .ref (b + a1), .int v2] (by decide +kernel) rfl rfl ?_
    obtain ⟨y2, h⟩ := h
    refine jIald C 11 (by decide +kernel : decode cX11_allSins 10 = .ok (.iaload, 1)) rfl t_a1 y2 ?_
    refine jIcmp_ge C 14 28 (by decide +kernel : decode cX11_allSins 11 = .ok (.if_icmp .ge 17, 3)) rfl rfl (fun c3 => ?_) (fun c3 => ?_)
    · have h := it1 h c3
      refine jB C [(.iload_n 1, 1, 0)] 29 [(0, .ref (b + v0)), (1, .int v1), (2, .int v2)] [.int v1] (by decide +kernel) rfl rfl ?_
      exact jRetI C (by decide +kernel : decode cX11_allSins 29 = .ok (.ireturn, 1)) (Nat.le_refl _) (Nat.le_refl _) ⟨rfl, h⟩
    · have h := it2 h c3
      refine jB C [(.iload_n 1, 1, 0), (.aload_n 0, 1, 0), (.iload_n 2, 1, 0)] 17 [(0, .ref (b + v0)), (1, .int v1), (2, .int v2)] [.int v2, .ref (b + v0), .int v1] (by decide +kernel) rfl rfl ?_
      refine jcV_I C 20 (rest := [.int v1]) (ok_X11_sinsOf t_v0 h) (by decide +kernel : decode cX11_allSins 17 = .ok (.invokevirtual 425, 3)) rfl wd_1406 wd_1408 wp_109 wd_12 wd_1409 ⟨rfl, rfl⟩ hd_X11_sinsOf ⟨Nat.le_of_ble_eq_true rfl, Nat.le_of_ble_eq_true rfl⟩ t_v0 kX11 (by decide) rfl rfl rfl (Nat.le_of_ble_eq_true rfl) ⟨Nat.zero_le _, Nat.zero_le _⟩ (fun r5 S4 h => ?_)
      refine jB C [(.iadd, 1, 0)] 21 [(0, .ref (b + v0)), (1, .int v1), (2, .int v2)] [.int (v1 + r5)] (by decide +kernel) rfl rfl ?_
      refine jTopI (fun x6 e_x6 => ?_)
      have h := h x6 e_x6
      refine jB C [(.istore_n 1, 1, 0), (.iinc 2 1, 3, 1)] 25 [(2, .int (v2 + 1)), (1, .int x6), (0, .ref (b + v0))] [] (by decide +kernel) rfl rfl ?_
      refine jGoto C 4 (by decide +kernel : decode cX11_allSins 25 = .ok (.goto (-21), 3)) rfl ?_
      refine jSub [2, 1, 0] rfl ?_
      exact ih x6 (v2 + 1) S4 h
theorem j_X11_allSins_4 {p : Program} {l : Launch} {e : Env} {s : State} {m : MethodId} {args : Array Value} {below : List Frame} {meth : Method} {c : Code} {b : Nat} {D : va_G} {cy : Nat → ClassId} {G : Gm} {v0 : Nat} {v1 : Int32} {v2 : Int32} {S : St} {Q : Int32 → St → Prop} (C : CX p s m args meth c b D cy cX11_allSins RX11 3 (some .int)) (hE : s.heap.size + 0 ≤ b + G.2.2) (t_v0 : ok G 10 v0) (h : f_X11_allSins_4 G v0 Q v1 v2 S) : J p l e rm_X11_allSins s m args below meth c b D cy 3 (zI b D cy below args s G Q) 0 0 G S 4 [(0, .ref (b + v0)), (1, .int v1), (2, .int v2)] [] := by
  obtain ⟨n, h⟩ := h
  exact j_X11_allSins_4_n C hE t_v0 n v1 v2 S h
set_option maxHeartbeats 4000000 in
set_option maxRecDepth 100000 in
theorem j_X11_allSins {p : Program} {l : Launch} {e : Env} {s : State} {m : MethodId} {args : Array Value} {below : List Frame} {meth : Method} {c : Code} {b : Nat} {D : va_G} {cy : Nat → ClassId} {G : Gm} {v0 : Nat} {S : St} {Q : Int32 → St → Prop} (C : CX p s m args meth c b D cy cX11_allSins RX11 3 (some .int)) (hE : s.heap.size + 0 ≤ b + G.2.2) (t_v0 : ok G 10 v0) (h : f_X11_allSins G v0 Q S) : J p l e rm_X11_allSins s m args below meth c b D cy 3 (zI b D cy below args s G Q) 0 0 G S 0 [(0, .ref (b + v0))] [] := by
  unfold f_X11_allSins at h
  refine jB C [(.iconst 0, 1, 0), (.istore_n 1, 1, 0), (.iconst 0, 1, 0), (.istore_n 2, 1, 0)] 4 [(2, .int 0), (1, .int 0), (0, .ref (b + v0))] [] (by decide +kernel) rfl rfl ?_
  refine jSub [2, 1, 0] rfl ?_
  exact j_X11_allSins_4 C hE t_v0 h
theorem ok_X11_allSins {G : Gm} {v0 : Nat} {S : St} {Q : Int32 → St → Prop} (t_v0 : ok G 10 v0) (h : f_X11_allSins G v0 Q S) : MT yX11_allSins cX11_allSins 3 (some .int) rm_X11_allSins 0 0 (fun b => [.ref (b + v0)]) G S (QI (fun r G1 S1 => G1 = G ∧ Q r S1)) := MT.ofJ (by decide) (fun b => [(0, .ref (b + v0))]) (fun b => rfl) (fun b => Nat.le_of_ble_eq_true rfl) (fun l b D cy p e s m below meth c C hE hn => j_X11_allSins C hE t_v0 h)
theorem hd_X11_allSins : yX11_allSins.cls ≠ "java/lang/invoke/MethodHandle" ∧ yX11_allSins.cls ≠ "java/lang/invoke/VarHandle" ∧ (parseMethodDescriptor yX11_allSins.desc).map (fun d => d.parameters.length) = some 0 := by decide +kernel
def f_X11_mostAlike_26_n (G : Gm) (v0 : Nat) (v1 : Int32) (Q : Int32 → St → Prop) : Nat → Int32 → Int32 → St → Prop
  | 0, _, _, _ => False
  | n + 1, v2, v3, S => (if 256 ≤ v3 then Q v2 S else f_X11_allSee G v0 v3 (fun r3 S2 => (if r3 = 0 then (f_X11_mostAlike_26_n G v0 v1 Q n) v2 (v3 + 1) S2 else f_X11_through G v0 v1 v3 (fun r6 S5 => (∃ a7, S5.2.2 v0 46 = some a7 ∧ (vp_in r6 (G.2.1 a7) ∧ (vp_in r6 (G.2.1 a7) ∧ ∀ S10, S10 = uI S5 a7 r6.toNatClampNeg ((S5.1 a7 r6.toNatClampNeg) + 1) → (∃ a11, S10.2.2 v0 46 = some a11 ∧ (vp_in r6 (G.2.1 a11) ∧ (if (S10.1 a11 r6.toNatClampNeg) ≤ v2 then (f_X11_mostAlike_26_n G v0 v1 Q n) v2 (v3 + 1) S10 else (∃ a14, S10.2.2 v0 46 = some a14 ∧ (vp_in r6 (G.2.1 a14) ∧ (∀ x16 : Int32, x16 = S10.1 a14 r6.toNatClampNeg → (f_X11_mostAlike_26_n G v0 v1 Q n) x16 (v3 + 1) S10)))))))))) S2)) S)
def f_X11_mostAlike_26 (G : Gm) (v0 : Nat) (v1 : Int32) (Q : Int32 → St → Prop) (v2 : Int32) (v3 : Int32) (S : St) : Prop := ∃ n, f_X11_mostAlike_26_n G v0 v1 Q n v2 v3 S
def f_X11_mostAlike_2_n (G : Gm) (v0 : Nat) (v1 : Int32) (Q : Int32 → St → Prop) : Nat → Int32 → St → Prop
  | 0, _, _ => False
  | n + 1, v2, S => (if 256 ≤ v2 then f_X11_mostAlike_26 G v0 v1 Q 0 0 S else (∃ a2, S.2.2 v0 46 = some a2 ∧ (vp_in v2 (G.2.1 a2) ∧ ∀ S4, S4 = uI S a2 v2.toNatClampNeg 0 → (f_X11_mostAlike_2_n G v0 v1 Q n) (v2 + 1) S4)))
def f_X11_mostAlike_2 (G : Gm) (v0 : Nat) (v1 : Int32) (Q : Int32 → St → Prop) (v2 : Int32) (S : St) : Prop := ∃ n, f_X11_mostAlike_2_n G v0 v1 Q n v2 S
def f_X11_mostAlike (G : Gm) (v0 : Nat) (v1 : Int32) (Q : Int32 → St → Prop) (S : St) : Prop :=
  f_X11_mostAlike_2 G v0 v1 Q 0 S
abbrev rm_X11_mostAlike : Room := { frames := 3, cells := 0, slots := 0, locals := 68 }
set_option maxHeartbeats 4000000 in
set_option maxRecDepth 100000 in
theorem j_X11_mostAlike_26_n {p : Program} {l : Launch} {e : Env} {s : State} {m : MethodId} {args : Array Value} {below : List Frame} {meth : Method} {c : Code} {b : Nat} {D : va_G} {cy : Nat → ClassId} {G : Gm} {v0 : Nat} {v1 : Int32} {Q : Int32 → St → Prop} (C : CX p s m args meth c b D cy cX11_mostAlike RX11 5 (some .int)) (hE : s.heap.size + 0 ≤ b + G.2.2) (t_v0 : ok G 10 v0) : ∀ n (v2 : Int32) (v3 : Int32) S, f_X11_mostAlike_26_n G v0 v1 Q n v2 v3 S → J p l e rm_X11_mostAlike s m args below meth c b D cy 5 (zI b D cy below args s G Q) 0 0 G S 26 [(0, .ref (b + v0)), (1, .int v1), (2, .int v2), (3, .int v3)] [] := by
  intro n
  induction n with
  | zero => intro v2 v3 S h; exact h.elim
  | succ n ih =>
    intro v2 v3 S h
    unfold f_X11_mostAlike_26_n at h
    refine jB C [(.iload_n 3, 1, 0), (.sipush 256, 3, 256)] 30 [(0, .ref (b + v0)), (1, .int v1), (2, .int v2), (3, .int v3)] [.int 256, .int v3] (by decide +kernel) rfl rfl ?_
    refine jIcmp_ge C 33 89 (by decide +kernel : decode cX11_mostAlike 30 = .ok (.if_icmp .ge 59, 3)) rfl rfl (fun c1 => ?_) (fun c1 => ?_)
    · have h := it1 h c1
      refine jB C [(.iload_n 2, 1, 0)] 90 [(0, .ref (b + v0)), (1, .int v1), (2, .int v2), (3, .int v3)] [.int v2] (by decide +kernel) rfl rfl ?_
      exact jRetI C (by decide +kernel : decode cX11_mostAlike 90 = .ok (.ireturn, 1)) (Nat.le_refl _) (Nat.le_refl _) ⟨rfl, h⟩
    · have h := it2 h c1
      refine jB C [(.aload_n 0, 1, 0), (.iload_n 3, 1, 0)] 35 [(0, .ref (b + v0)), (1, .int v1), (2, .int v2), (3, .int v3)] [.int v3, .ref (b + v0)] (by decide +kernel) rfl rfl ?_
      refine jcV_I C 38 (rest := []) (ok_X11_allSee t_v0 h) (by decide +kernel : decode cX11_mostAlike 35 = .ok (.invokevirtual 502, 3)) rfl wd_1728 wd_1730 wp_156 wd_12 wd_1731 ⟨rfl, rfl⟩ hd_X11_allSee ⟨Nat.le_of_ble_eq_true rfl, Nat.le_of_ble_eq_true rfl⟩ t_v0 kX11 (by decide) rfl rfl rfl (Nat.le_of_ble_eq_true rfl) ⟨Nat.zero_le _, Nat.zero_le _⟩ (fun r3 S2 h => ?_)
      refine jIf_eq C 41 83 (by decide +kernel : decode cX11_mostAlike 38 = .ok (.ifCond .eq 45, 3)) rfl rfl (fun c4 => ?_) (fun c4 => ?_)
      · have h := it1 h c4
        refine jB C [(.iinc 3 1, 3, 1)] 86 [(3, .int (v3 + 1)), (0, .ref (b + v0)), (1, .int v1), (2, .int v2)] [] (by decide +kernel) rfl rfl ?_
        refine jGoto C 26 (by decide +kernel : decode cX11_mostAlike 86 = .ok (.goto (-60), 3)) rfl ?_
        refine jSub [1, 2, 3, 0] rfl ?_
        exact ih v2 (v3 + 1) S2 h
      · have h := it2 h c4
        refine jB C [(.aload_n 0, 1, 0), (.iload_n 1, 1, 0), (.iload_n 3, 1, 0)] 44 [(0, .ref (b + v0)), (1, .int v1), (2, .int v2), (3, .int v3)] [.int v3, .int v1, .ref (b + v0)] (by decide +kernel) rfl rfl ?_
        refine jcV_I C 47 (rest := []) (ok_X11_through t_v0 h) (by decide +kernel : decode cX11_mostAlike 44 = .ok (.invokevirtual 199, 3)) rfl wd_1390 wd_1392 wp_106 wd_12 wd_1393 ⟨rfl, rfl⟩ hd_X11_through ⟨Nat.le_of_ble_eq_true rfl, Nat.le_of_ble_eq_true rfl⟩ t_v0 kX11 (by decide) rfl rfl rfl (Nat.le_of_ble_eq_true rfl) ⟨Nat.zero_le _, Nat.zero_le _⟩ (fun r6 S5 h => ?_)
        refine jB C [(.istore 4, 2, 0), (.aload_n 0, 1, 0)] 50 [(4, .int r6), (0, .ref (b + v0)), (1, .int v1), (2, .int v2), (3, .int v3)] [.ref (b + v0)] (by decide +kernel) rfl rfl ?_
        obtain ⟨a7, e_a7, h⟩ := h
        refine jGetR C 53 (by decide +kernel : decode cX11_mostAlike 50 = .ok (.getfield 123, 3)) rfl t_v0 kX11 46 (by decide) rfl rfl (by decide) wd_1200 e_a7 rfl (fun t_a7 => ?_)
        refine jB C [(.iload 4, 2, 0), (.dup2, 1, 0)] 56 [(4, .int r6), (0, .ref (b + v0)), (1, .int v1), (2, .int v2), (3, .int v3)] [.int r6, .ref (b + a7), .int r6, .ref (b + a7)] (by decide +kernel) rfl rfl ?_
        obtain ⟨y8, h⟩ := h
        refine jIald C 57 (by decide +kernel : decode cX11_mostAlike 56 = .ok (.iaload, 1)) rfl t_a7 y8 ?_
        refine jB C [(.iconst 1, 1, 1), (.iadd, 1, 0)] 59 [(4, .int r6), (0, .ref (b + v0)), (1, .int v1), (2, .int v2), (3, .int v3)] [.int ((S5.1 a7 r6.toNatClampNeg) + 1), .int r6, .ref (b + a7)] (by decide +kernel) rfl rfl ?_
        obtain ⟨y9, h⟩ := h
        refine jIast C 60 (by decide +kernel : decode cX11_mostAlike 59 = .ok (.iastore, 1)) rfl hE t_a7 y9 ?_
        refine jTopS (fun S10 e_S10 => ?_)
        have h := h S10 e_S10
        refine jB C [(.aload_n 0, 1, 0)] 61 [(4, .int r6), (0, .ref (b + v0)), (1, .int v1), (2, .int v2), (3, .int v3)] [.ref (b + v0)] (by decide +kernel) rfl rfl ?_
        obtain ⟨a11, e_a11, h⟩ := h
        refine jGetR C 64 (by decide +kernel : decode cX11_mostAlike 61 = .ok (.getfield 123, 3)) rfl t_v0 kX11 46 (by decide) rfl rfl (by decide) wd_1200 e_a11 rfl (fun t_a11 => ?_)
        refine jB C [(.iload 4, 2, 0)] 66 [(4, .int r6), (0, .ref (b + v0)), (1, .int v1), (2, .int v2), (3, .int v3)] [.int r6, .ref (b + a11)] (by decide +kernel) rfl rfl ?_
        obtain ⟨y12, h⟩ := h
        refine jIald C 67 (by decide +kernel : decode cX11_mostAlike 66 = .ok (.iaload, 1)) rfl t_a11 y12 ?_
        refine jB C [(.iload_n 2, 1, 0)] 68 [(4, .int r6), (0, .ref (b + v0)), (1, .int v1), (2, .int v2), (3, .int v3)] [.int v2, .int (S10.1 a11 r6.toNatClampNeg)] (by decide +kernel) rfl rfl ?_
        refine jIcmp_le C 71 81 (by decide +kernel : decode cX11_mostAlike 68 = .ok (.if_icmp .le 13, 3)) rfl rfl (fun c13 => ?_) (fun c13 => ?_)
        · have h := it1 h c13
          refine jB C [(.iload_n 2, 1, 0), (.istore_n 2, 1, 0), (.iinc 3 1, 3, 1)] 86 [(3, .int (v3 + 1)), (2, .int v2), (4, .int r6), (0, .ref (b + v0)), (1, .int v1)] [] (by decide +kernel) rfl rfl ?_
          refine jGoto C 26 (by decide +kernel : decode cX11_mostAlike 86 = .ok (.goto (-60), 3)) rfl ?_
          refine jSub [3, 4, 1, 0] rfl ?_
          exact ih v2 (v3 + 1) S10 h
        · have h := it2 h c13
          refine jB C [(.aload_n 0, 1, 0)] 72 [(4, .int r6), (0, .ref (b + v0)), (1, .int v1), (2, .int v2), (3, .int v3)] [.ref (b + v0)] (by decide +kernel) rfl rfl ?_
          obtain ⟨a14, e_a14, h⟩ := h
          refine jGetR C 75 (by decide +kernel : decode cX11_mostAlike 72 = .ok (.getfield 123, 3)) rfl t_v0 kX11 46 (by decide) rfl rfl (by decide) wd_1200 e_a14 rfl (fun t_a14 => ?_)
          refine jB C [(.iload 4, 2, 0)] 77 [(4, .int r6), (0, .ref (b + v0)), (1, .int v1), (2, .int v2), (3, .int v3)] [.int r6, .ref (b + a14)] (by decide +kernel) rfl rfl ?_
          obtain ⟨y15, h⟩ := h
          refine jIald C 78 (by decide +kernel : decode cX11_mostAlike 77 = .ok (.iaload, 1)) rfl t_a14 y15 ?_
          refine jGoto C 82 (by decide +kernel : decode cX11_mostAlike 78 = .ok (.goto 4, 3)) rfl ?_
          refine jTopI (fun x16 e_x16 => ?_)
          have h := h x16 e_x16
          refine jB C [(.istore_n 2, 1, 0), (.iinc 3 1, 3, 1)] 86 [(3, .int (v3 + 1)), (2, .int x16), (4, .int r6), (0, .ref (b + v0)), (1, .int v1)] [] (by decide +kernel) rfl rfl ?_
          refine jGoto C 26 (by decide +kernel : decode cX11_mostAlike 86 = .ok (.goto (-60), 3)) rfl ?_
          refine jSub [3, 4, 1, 0] rfl ?_
          exact ih x16 (v3 + 1) S10 h
theorem j_X11_mostAlike_26 {p : Program} {l : Launch} {e : Env} {s : State} {m : MethodId} {args : Array Value} {below : List Frame} {meth : Method} {c : Code} {b : Nat} {D : va_G} {cy : Nat → ClassId} {G : Gm} {v0 : Nat} {v1 : Int32} {v2 : Int32} {v3 : Int32} {S : St} {Q : Int32 → St → Prop} (C : CX p s m args meth c b D cy cX11_mostAlike RX11 5 (some .int)) (hE : s.heap.size + 0 ≤ b + G.2.2) (t_v0 : ok G 10 v0) (h : f_X11_mostAlike_26 G v0 v1 Q v2 v3 S) : J p l e rm_X11_mostAlike s m args below meth c b D cy 5 (zI b D cy below args s G Q) 0 0 G S 26 [(0, .ref (b + v0)), (1, .int v1), (2, .int v2), (3, .int v3)] [] := by
  obtain ⟨n, h⟩ := h
  exact j_X11_mostAlike_26_n C hE t_v0 n v2 v3 S h
set_option maxHeartbeats 4000000 in
set_option maxRecDepth 100000 in
theorem j_X11_mostAlike_2_n {p : Program} {l : Launch} {e : Env} {s : State} {m : MethodId} {args : Array Value} {below : List Frame} {meth : Method} {c : Code} {b : Nat} {D : va_G} {cy : Nat → ClassId} {G : Gm} {v0 : Nat} {v1 : Int32} {Q : Int32 → St → Prop} (C : CX p s m args meth c b D cy cX11_mostAlike RX11 5 (some .int)) (hE : s.heap.size + 0 ≤ b + G.2.2) (t_v0 : ok G 10 v0) : ∀ n (v2 : Int32) S, f_X11_mostAlike_2_n G v0 v1 Q n v2 S → J p l e rm_X11_mostAlike s m args below meth c b D cy 5 (zI b D cy below args s G Q) 0 0 G S 2 [(0, .ref (b + v0)), (1, .int v1), (2, .int v2)] [] := by
  intro n
  induction n with
  | zero => intro v2 S h; exact h.elim
  | succ n ih =>
    intro v2 S h
    unfold f_X11_mostAlike_2_n at h
    refine jB C [(.iload_n 2, 1, 0), (.sipush 256, 3, 256)] 6 [(0, .ref (b + v0)), (1, .int v1), (2, .int v2)] [.int 256, .int v2] (by decide +kernel) rfl rfl ?_
    refine jIcmp_ge C 9 22 (by decide +kernel : decode cX11_mostAlike 6 = .ok (.if_icmp .ge 16, 3)) rfl rfl (fun c1 => ?_) (fun c1 => ?_)
    · have h := it1 h c1
      refine jB C [(.iconst 0, 1, 0), (.istore_n 2, 1, 0), (.iconst 0, 1, 0), (.istore_n 3, 1, 0)] 26 [(3, .int 0), (2, .int 0), (0, .ref (b + v0)), (1, .int v1)] [] (by decide +kernel) rfl rfl ?_
      refine jSub [2, 3, 1, 0] rfl ?_
      exact j_X11_mostAlike_26 C hE t_v0 h
    · have h := it2 h c1
      refine jB C [(.aload_n 0, 1, 0)] 10 [(0, .ref (b + v0)), (1, .int v1), (2, .int v2)] [.ref (b + v0)] (by decide +kernel) rfl rfl ?_
      obtain ⟨a2, e_a2, h⟩ := h
      refine jGetR C 13 (by decide +kernel : decode cX11_mostAlike 10 = .ok (.getfield 123, 3)) rfl t_v0 kX11 46 (by decide) rfl rfl (by decide) wd_1200 e_a2 rfl (fun t_a2 => ?_)
      refine jB C [(.iload_n 2, 1, 0), (.iconst 0, 1, 0)] 15 [(0, .ref (b + v0)), (1, .int v1), (2, .int v2)] [.int 0, .int v2, .ref (b + a2)] (by decide +kernel) rfl rfl ?_
      obtain ⟨y3, h⟩ := h
      refine jIast C 16 (by decide +kernel : decode cX11_mostAlike 15 = .ok (.iastore, 1)) rfl hE t_a2 y3 ?_
      refine jTopS (fun S4 e_S4 => ?_)
      have h := h S4 e_S4
      refine jB C [(.iinc 2 1, 3, 1)] 19 [(2, .int (v2 + 1)), (0, .ref (b + v0)), (1, .int v1)] [] (by decide +kernel) rfl rfl ?_
      refine jGoto C 2 (by decide +kernel : decode cX11_mostAlike 19 = .ok (.goto (-17), 3)) rfl ?_
      refine jSub [1, 2, 0] rfl ?_
      exact ih (v2 + 1) S4 h
theorem j_X11_mostAlike_2 {p : Program} {l : Launch} {e : Env} {s : State} {m : MethodId} {args : Array Value} {below : List Frame} {meth : Method} {c : Code} {b : Nat} {D : va_G} {cy : Nat → ClassId} {G : Gm} {v0 : Nat} {v1 : Int32} {v2 : Int32} {S : St} {Q : Int32 → St → Prop} (C : CX p s m args meth c b D cy cX11_mostAlike RX11 5 (some .int)) (hE : s.heap.size + 0 ≤ b + G.2.2) (t_v0 : ok G 10 v0) (h : f_X11_mostAlike_2 G v0 v1 Q v2 S) : J p l e rm_X11_mostAlike s m args below meth c b D cy 5 (zI b D cy below args s G Q) 0 0 G S 2 [(0, .ref (b + v0)), (1, .int v1), (2, .int v2)] [] := by
  obtain ⟨n, h⟩ := h
  exact j_X11_mostAlike_2_n C hE t_v0 n v2 S h
set_option maxHeartbeats 4000000 in
set_option maxRecDepth 100000 in
theorem j_X11_mostAlike {p : Program} {l : Launch} {e : Env} {s : State} {m : MethodId} {args : Array Value} {below : List Frame} {meth : Method} {c : Code} {b : Nat} {D : va_G} {cy : Nat → ClassId} {G : Gm} {v0 : Nat} {v1 : Int32} {S : St} {Q : Int32 → St → Prop} (C : CX p s m args meth c b D cy cX11_mostAlike RX11 5 (some .int)) (hE : s.heap.size + 0 ≤ b + G.2.2) (t_v0 : ok G 10 v0) (h : f_X11_mostAlike G v0 v1 Q S) : J p l e rm_X11_mostAlike s m args below meth c b D cy 5 (zI b D cy below args s G Q) 0 0 G S 0 [(0, .ref (b + v0)), (1, .int v1)] [] := by
  unfold f_X11_mostAlike at h
  refine jB C [(.iconst 0, 1, 0), (.istore_n 2, 1, 0)] 2 [(2, .int 0), (0, .ref (b + v0)), (1, .int v1)] [] (by decide +kernel) rfl rfl ?_
  refine jSub [1, 2, 0] rfl ?_
  exact j_X11_mostAlike_2 C hE t_v0 h
theorem ok_X11_mostAlike {G : Gm} {v0 : Nat} {v1 : Int32} {S : St} {Q : Int32 → St → Prop} (t_v0 : ok G 10 v0) (h : f_X11_mostAlike G v0 v1 Q S) : MT yX11_mostAlike cX11_mostAlike 5 (some .int) rm_X11_mostAlike 0 0 (fun b => [.ref (b + v0), .int v1]) G S (QI (fun r G1 S1 => G1 = G ∧ Q r S1)) := MT.ofJ (by decide) (fun b => [(0, .ref (b + v0)), (1, .int v1)]) (fun b => rfl) (fun b => Nat.le_of_ble_eq_true rfl) (fun l b D cy p e s m below meth c C hE hn => j_X11_mostAlike C hE t_v0 h)
theorem hd_X11_mostAlike : yX11_mostAlike.cls ≠ "java/lang/invoke/MethodHandle" ∧ yX11_mostAlike.cls ≠ "java/lang/invoke/VarHandle" ∧ (parseMethodDescriptor yX11_mostAlike.desc).map (fun d => d.parameters.length) = some 1 := by decide +kernel
def f_X11_ask_62 (G : Gm) (k26 : Int32 → Int32 → Int32 → St → Prop) (v0 : Nat) (v1 : Int32) (v2 : Int32) (v4 : Int32) (v5 : Int32) (u0 : Int32) (Q : Int32 → St → Prop) (S : St) : Prop :=
  (if v5 ≤ 0 then k26 v2 u0 (v4 + 1) S else (if v2 ≤ v5 then k26 v2 u0 (v4 + 1) S else k26 v5 u0 (v4 + 1) S))
def f_X11_ask_61 (G : Gm) (k26 : Int32 → Int32 → Int32 → St → Prop) (v0 : Nat) (v1 : Int32) (v2 : Int32) (v3 : Int32) (v4 : Int32) (v5 : Int32) (Q : Int32 → St → Prop) (S : St) : Prop :=
  f_X11_ask_62 G k26 v0 v1 v2 v4 v5 v3 Q S
def f_X11_ask_26_n (G : Gm) (v0 : Nat) (v1 : Int32) (Q : Int32 → St → Prop) : Nat → Int32 → Int32 → Int32 → St → Prop
  | 0, _, _, _, _ => False
  | n + 1, v2, v3, v4, S => (∃ a1, S.2.2 v0 4 = some a1 ∧ (vp_in 0 (G.2.1 a1) ∧ (if (S.1 a1 0.toNatClampNeg) ≤ v4 then (if v3 = (-1) then Q v3 S else (if v1 = 0 then Q v3 S else Q v2 S)) else f_X11_mostAlike G v0 v4 (fun r7 S6 => (if r7 ≤ 0 then f_X11_ask_61 G (f_X11_ask_26_n G v0 v1 Q n) v0 v1 v2 v3 v4 r7 Q S6 else (if v2 ≤ r7 then f_X11_ask_61 G (f_X11_ask_26_n G v0 v1 Q n) v0 v1 v2 v3 v4 r7 Q S6 else f_X11_ask_62 G (f_X11_ask_26_n G v0 v1 Q n) v0 v1 v2 v4 r7 v4 Q S6))) S)))
def f_X11_ask_26 (G : Gm) (v0 : Nat) (v1 : Int32) (Q : Int32 → St → Prop) (v2 : Int32) (v3 : Int32) (v4 : Int32) (S : St) : Prop := ∃ n, f_X11_ask_26_n G v0 v1 Q n v2 v3 v4 S
def f_X11_ask (G : Gm) (v0 : Nat) (v1 : Int32) (Q : Int32 → St → Prop) (S : St) : Prop :=
  (∀ S1, S1 = uI S v0 0 0 → f_X11_in G v1.toInt64 0 1 (fun r3 S2 => (if r3 = 0 then Q (-1) S2 else f_X11_ask_26 G v0 v1 Q 100000000 (-1) 0 S2)) S1)
abbrev rm_X11_ask : Room := { frames := 4, cells := 0, slots := 0, locals := 92 }
set_option maxHeartbeats 4000000 in
set_option maxRecDepth 100000 in
theorem j_X11_ask_62 {p : Program} {l : Launch} {e : Env} {s : State} {m : MethodId} {args : Array Value} {below : List Frame} {meth : Method} {c : Code} {b : Nat} {D : va_G} {cy : Nat → ClassId} {G : Gm} {k26 : Int32 → Int32 → Int32 → St → Prop} {v0 : Nat} {v1 : Int32} {v2 : Int32} {v4 : Int32} {v5 : Int32} {u0 : Int32} {S : St} {Q : Int32 → St → Prop} (C : CX p s m args meth c b D cy cX11_ask RX11 6 (some .int)) (hE : s.heap.size + 0 ≤ b + G.2.2) (t_v0 : ok G 10 v0) (hk26 : ∀ v2' v3' v4' S, k26 v2' v3' v4' S → J p l e rm_X11_ask s m args below meth c b D cy 6 (zI b D cy below args s G Q) 0 0 G S 26 [(0, .ref (b + v0)), (1, .int v1), (2, .int (v2')), (3, .int (v3')), (4, .int (v4'))] []) (h : f_X11_ask_62 G k26 v0 v1 v2 v4 v5 u0 Q S) : J p l e rm_X11_ask s m args below meth c b D cy 6 (zI b D cy below args s G Q) 0 0 G S 62 [(0, .ref (b + v0)), (1, .int v1), (2, .int v2), (4, .int v4), (5, .int v5)] [.int u0] := by
  unfold f_X11_ask_62 at h
  refine jB C [(.istore_n 3, 1, 0), (.iload 5, 2, 0)] 65 [(3, .int u0), (0, .ref (b + v0)), (1, .int v1), (2, .int v2), (4, .int v4), (5, .int v5)] [.int v5] (by decide +kernel) rfl rfl ?_
  refine jIf_le C 68 79 (by decide +kernel : decode cX11_ask 65 = .ok (.ifCond .le 14, 3)) rfl rfl (fun c1 => ?_) (fun c1 => ?_)
  · have h := it1 h c1
    refine jB C [(.iload_n 2, 1, 0), (.istore_n 2, 1, 0), (.iinc 4 1, 3, 1)] 84 [(4, .int (v4 + 1)), (2, .int v2), (3, .int u0), (0, .ref (b + v0)), (1, .int v1), (5, .int v5)] [] (by decide +kernel) rfl rfl ?_
    refine jGoto C 26 (by decide +kernel : decode cX11_ask 84 = .ok (.goto (-58), 3)) rfl ?_
    refine jSub [3, 4, 1, 2, 0] rfl ?_
    exact hk26 v2 u0 (v4 + 1) S h
  · have h := it2 h c1
    refine jB C [(.iload 5, 2, 0), (.iload_n 2, 1, 0)] 71 [(3, .int u0), (0, .ref (b + v0)), (1, .int v1), (2, .int v2), (4, .int v4), (5, .int v5)] [.int v2, .int v5] (by decide +kernel) rfl rfl ?_
    refine jIcmp_ge C 74 79 (by decide +kernel : decode cX11_ask 71 = .ok (.if_icmp .ge 8, 3)) rfl rfl (fun c2 => ?_) (fun c2 => ?_)
    · have h := it1 h c2
      refine jB C [(.iload_n 2, 1, 0), (.istore_n 2, 1, 0), (.iinc 4 1, 3, 1)] 84 [(4, .int (v4 + 1)), (2, .int v2), (3, .int u0), (0, .ref (b + v0)), (1, .int v1), (5, .int v5)] [] (by decide +kernel) rfl rfl ?_
      refine jGoto C 26 (by decide +kernel : decode cX11_ask 84 = .ok (.goto (-58), 3)) rfl ?_
      refine jSub [3, 4, 1, 2, 0] rfl ?_
      exact hk26 v2 u0 (v4 + 1) S h
    · have h := it2 h c2
      refine jB C [(.iload 5, 2, 0)] 76 [(3, .int u0), (0, .ref (b + v0)), (1, .int v1), (2, .int v2), (4, .int v4), (5, .int v5)] [.int v5] (by decide +kernel) rfl rfl ?_
      refine jGoto C 80 (by decide +kernel : decode cX11_ask 76 = .ok (.goto 4, 3)) rfl ?_
      refine jB C [(.istore_n 2, 1, 0), (.iinc 4 1, 3, 1)] 84 [(4, .int (v4 + 1)), (2, .int v5), (3, .int u0), (0, .ref (b + v0)), (1, .int v1), (5, .int v5)] [] (by decide +kernel) rfl rfl ?_
      refine jGoto C 26 (by decide +kernel : decode cX11_ask 84 = .ok (.goto (-58), 3)) rfl ?_
      refine jSub [3, 4, 1, 2, 0] rfl ?_
      exact hk26 v5 u0 (v4 + 1) S h
set_option maxHeartbeats 4000000 in
set_option maxRecDepth 100000 in
theorem j_X11_ask_61 {p : Program} {l : Launch} {e : Env} {s : State} {m : MethodId} {args : Array Value} {below : List Frame} {meth : Method} {c : Code} {b : Nat} {D : va_G} {cy : Nat → ClassId} {G : Gm} {k26 : Int32 → Int32 → Int32 → St → Prop} {v0 : Nat} {v1 : Int32} {v2 : Int32} {v3 : Int32} {v4 : Int32} {v5 : Int32} {S : St} {Q : Int32 → St → Prop} (C : CX p s m args meth c b D cy cX11_ask RX11 6 (some .int)) (hE : s.heap.size + 0 ≤ b + G.2.2) (t_v0 : ok G 10 v0) (hk26 : ∀ v2' v3' v4' S, k26 v2' v3' v4' S → J p l e rm_X11_ask s m args below meth c b D cy 6 (zI b D cy below args s G Q) 0 0 G S 26 [(0, .ref (b + v0)), (1, .int v1), (2, .int (v2')), (3, .int (v3')), (4, .int (v4'))] []) (h : f_X11_ask_61 G k26 v0 v1 v2 v3 v4 v5 Q S) : J p l e rm_X11_ask s m args below meth c b D cy 6 (zI b D cy below args s G Q) 0 0 G S 61 [(0, .ref (b + v0)), (1, .int v1), (2, .int v2), (3, .int v3), (4, .int v4), (5, .int v5)] [] := by
  unfold f_X11_ask_61 at h
  refine jB C [(.iload_n 3, 1, 0)] 62 [(0, .ref (b + v0)), (1, .int v1), (2, .int v2), (3, .int v3), (4, .int v4), (5, .int v5)] [.int v3] (by decide +kernel) rfl rfl ?_
  refine jSub [0, 1, 2, 4, 5] rfl ?_
  exact j_X11_ask_62 C hE t_v0 hk26 h
set_option maxHeartbeats 4000000 in
set_option maxRecDepth 100000 in
theorem j_X11_ask_26_n {p : Program} {l : Launch} {e : Env} {s : State} {m : MethodId} {args : Array Value} {below : List Frame} {meth : Method} {c : Code} {b : Nat} {D : va_G} {cy : Nat → ClassId} {G : Gm} {v0 : Nat} {v1 : Int32} {Q : Int32 → St → Prop} (C : CX p s m args meth c b D cy cX11_ask RX11 6 (some .int)) (hE : s.heap.size + 0 ≤ b + G.2.2) (t_v0 : ok G 10 v0) : ∀ n (v2 : Int32) (v3 : Int32) (v4 : Int32) S, f_X11_ask_26_n G v0 v1 Q n v2 v3 v4 S → J p l e rm_X11_ask s m args below meth c b D cy 6 (zI b D cy below args s G Q) 0 0 G S 26 [(0, .ref (b + v0)), (1, .int v1), (2, .int v2), (3, .int v3), (4, .int v4)] [] := by
  intro n
  induction n with
  | zero => intro v2 v3 v4 S h; exact h.elim
  | succ n ih =>
    intro v2 v3 v4 S h
    unfold f_X11_ask_26_n at h
    refine jB C [(.iload 4, 2, 0), (.aload_n 0, 1, 0)] 29 [(0, .ref (b + v0)), (1, .int v1), (2, .int v2), (3, .int v3), (4, .int v4)] [.ref (b + v0), .int v4] (by decide +kernel) rfl rfl ?_
    obtain ⟨a1, e_a1, h⟩ := h
    refine jGetR C 32 (by decide +kernel : decode cX11_ask 29 = .ok (.getfield 16, 3)) rfl t_v0 kX11 4 (by decide) rfl rfl (by decide) wd_1158 e_a1 rfl (fun t_a1 => ?_)
    refine jB C [(.iconst 0, 1, 0)] 33 [(0, .ref (b + v0)), (1, .int v1), (2, .int v2), (3, .int v3), (4, .int v4)] [.int 0, .ref (b + a1), .int v4] (by decide +kernel) rfl rfl ?_
    obtain ⟨y2, h⟩ := h
    refine jIald C 34 (by decide +kernel : decode cX11_ask 33 = .ok (.iaload, 1)) rfl t_a1 y2 ?_
    refine jIcmp_ge C 37 87 (by decide +kernel : decode cX11_ask 34 = .ok (.if_icmp .ge 53, 3)) rfl rfl (fun c3 => ?_) (fun c3 => ?_)
    · have h := it1 h c3
      refine jB C [(.iload_n 3, 1, 0), (.iconst (-1), 1, (-1))] 89 [(0, .ref (b + v0)), (1, .int v1), (2, .int v2), (3, .int v3), (4, .int v4)] [.int (-1), .int v3] (by decide +kernel) rfl rfl ?_
      refine jIcmp_eq C 92 96 (by decide +kernel : decode cX11_ask 89 = .ok (.if_icmp .eq 7, 3)) rfl rfl (fun c4 => ?_) (fun c4 => ?_)
      · have h := it1 h c4
        refine jB C [(.iload_n 3, 1, 0)] 97 [(0, .ref (b + v0)), (1, .int v1), (2, .int v2), (3, .int v3), (4, .int v4)] [.int v3] (by decide +kernel) rfl rfl ?_
        refine jGoto C 101 (by decide +kernel : decode cX11_ask 97 = .ok (.goto 4, 3)) rfl ?_
        exact jRetI C (by decide +kernel : decode cX11_ask 101 = .ok (.ireturn, 1)) (Nat.le_refl _) (Nat.le_refl _) ⟨rfl, h⟩
      · have h := it2 h c4
        refine jB C [(.iload_n 1, 1, 0)] 93 [(0, .ref (b + v0)), (1, .int v1), (2, .int v2), (3, .int v3), (4, .int v4)] [.int v1] (by decide +kernel) rfl rfl ?_
        refine jIf_ne C 96 100 (by decide +kernel : decode cX11_ask 93 = .ok (.ifCond .ne 7, 3)) rfl rfl (fun c5 => ?_) (fun c5 => ?_)
        · have h := it2 h c5
          refine jB C [(.iload_n 2, 1, 0)] 101 [(0, .ref (b + v0)), (1, .int v1), (2, .int v2), (3, .int v3), (4, .int v4)] [.int v2] (by decide +kernel) rfl rfl ?_
          exact jRetI C (by decide +kernel : decode cX11_ask 101 = .ok (.ireturn, 1)) (Nat.le_refl _) (Nat.le_refl _) ⟨rfl, h⟩
        · have h := it1 h c5
          refine jB C [(.iload_n 3, 1, 0)] 97 [(0, .ref (b + v0)), (1, .int v1), (2, .int v2), (3, .int v3), (4, .int v4)] [.int v3] (by decide +kernel) rfl rfl ?_
          refine jGoto C 101 (by decide +kernel : decode cX11_ask 97 = .ok (.goto 4, 3)) rfl ?_
          exact jRetI C (by decide +kernel : decode cX11_ask 101 = .ok (.ireturn, 1)) (Nat.le_refl _) (Nat.le_refl _) ⟨rfl, h⟩
    · have h := it2 h c3
      refine jB C [(.aload_n 0, 1, 0), (.iload 4, 2, 0)] 40 [(0, .ref (b + v0)), (1, .int v1), (2, .int v2), (3, .int v3), (4, .int v4)] [.int v4, .ref (b + v0)] (by decide +kernel) rfl rfl ?_
      refine jcV_I C 43 (rest := []) (ok_X11_mostAlike t_v0 h) (by decide +kernel : decode cX11_ask 40 = .ok (.invokevirtual 505, 3)) rfl wd_1736 wd_1738 wp_157 wd_12 wd_1739 ⟨rfl, rfl⟩ hd_X11_mostAlike ⟨Nat.le_of_ble_eq_true rfl, Nat.le_of_ble_eq_true rfl⟩ t_v0 kX11 (by decide) rfl rfl rfl (Nat.le_of_ble_eq_true rfl) ⟨Nat.zero_le _, Nat.zero_le _⟩ (fun r7 S6 h => ?_)
      refine jB C [(.istore 5, 2, 0), (.iload 5, 2, 0)] 47 [(5, .int r7), (0, .ref (b + v0)), (1, .int v1), (2, .int v2), (3, .int v3), (4, .int v4)] [.int r7] (by decide +kernel) rfl rfl ?_
      refine jIf_le C 50 61 (by decide +kernel : decode cX11_ask 47 = .ok (.ifCond .le 14, 3)) rfl rfl (fun c8 => ?_) (fun c8 => ?_)
      · have h := it1 h c8
        refine jSub [1, 2, 3, 4, 5, 0] rfl ?_
        exact j_X11_ask_61 C hE t_v0 ih h
      · have h := it2 h c8
        refine jB C [(.iload 5, 2, 0), (.iload_n 2, 1, 0)] 53 [(5, .int r7), (0, .ref (b + v0)), (1, .int v1), (2, .int v2), (3, .int v3), (4, .int v4)] [.int v2, .int r7] (by decide +kernel) rfl rfl ?_
        refine jIcmp_ge C 56 61 (by decide +kernel : decode cX11_ask 53 = .ok (.if_icmp .ge 8, 3)) rfl rfl (fun c9 => ?_) (fun c9 => ?_)
        · have h := it1 h c9
          refine jSub [1, 2, 3, 4, 5, 0] rfl ?_
          exact j_X11_ask_61 C hE t_v0 ih h
        · have h := it2 h c9
          refine jB C [(.iload 4, 2, 0)] 58 [(5, .int r7), (0, .ref (b + v0)), (1, .int v1), (2, .int v2), (3, .int v3), (4, .int v4)] [.int v4] (by decide +kernel) rfl rfl ?_
          refine jGoto C 62 (by decide +kernel : decode cX11_ask 58 = .ok (.goto 4, 3)) rfl ?_
          refine jSub [1, 2, 3, 5, 0] rfl ?_
          exact j_X11_ask_62 C hE t_v0 ih h
theorem j_X11_ask_26 {p : Program} {l : Launch} {e : Env} {s : State} {m : MethodId} {args : Array Value} {below : List Frame} {meth : Method} {c : Code} {b : Nat} {D : va_G} {cy : Nat → ClassId} {G : Gm} {v0 : Nat} {v1 : Int32} {v2 : Int32} {v3 : Int32} {v4 : Int32} {S : St} {Q : Int32 → St → Prop} (C : CX p s m args meth c b D cy cX11_ask RX11 6 (some .int)) (hE : s.heap.size + 0 ≤ b + G.2.2) (t_v0 : ok G 10 v0) (h : f_X11_ask_26 G v0 v1 Q v2 v3 v4 S) : J p l e rm_X11_ask s m args below meth c b D cy 6 (zI b D cy below args s G Q) 0 0 G S 26 [(0, .ref (b + v0)), (1, .int v1), (2, .int v2), (3, .int v3), (4, .int v4)] [] := by
  obtain ⟨n, h⟩ := h
  exact j_X11_ask_26_n C hE t_v0 n v2 v3 v4 S h
set_option maxHeartbeats 4000000 in
set_option maxRecDepth 100000 in
theorem j_X11_ask {p : Program} {l : Launch} {e : Env} {s : State} {m : MethodId} {args : Array Value} {below : List Frame} {meth : Method} {c : Code} {b : Nat} {D : va_G} {cy : Nat → ClassId} {G : Gm} {v0 : Nat} {v1 : Int32} {S : St} {Q : Int32 → St → Prop} (C : CX p s m args meth c b D cy cX11_ask RX11 6 (some .int)) (hE : s.heap.size + 0 ≤ b + G.2.2) (t_v0 : ok G 10 v0) (h : f_X11_ask G v0 v1 Q S) : J p l e rm_X11_ask s m args below meth c b D cy 6 (zI b D cy below args s G Q) 0 0 G S 0 [(0, .ref (b + v0)), (1, .int v1)] [] := by
  unfold f_X11_ask at h
  refine jB C [(.aload_n 0, 1, 0), (.iconst 0, 1, 0)] 2 [(0, .ref (b + v0)), (1, .int v1)] [.int 0, .ref (b + v0)] (by decide +kernel) rfl rfl ?_
  refine jPutI C 5 (by decide +kernel : decode cX11_ask 2 = .ok (.putfield 165, 3)) rfl hE t_v0 kX11 0 (by decide) rfl rfl (by decide) rfl wd_1154 rfl rfl rfl ?_
  refine jTopS (fun S1 e_S1 => ?_)
  have h := h S1 e_S1
  refine jB C [(.iload_n 1, 1, 0), (.i2l, 1, 0), (.lconst 0, 1, 0), (.lconst 1, 1, 0)] 9 [(0, .ref (b + v0)), (1, .int v1)] [.long 1, .long 0, .long v1.toInt64] (by decide +kernel) rfl rfl ?_
  refine jcS_I C 12 (rest := []) (ok_X11_in h) (by decide +kernel : decode cX11_ask 9 = .ok (.invokestatic 185, 3)) rfl wd_1352 wd_1353 wd_12 wd_1354 ⟨rfl, rfl⟩ hd_X11_in ⟨Nat.le_of_ble_eq_true rfl, Nat.le_of_ble_eq_true rfl⟩ rfl rfl (Nat.le_of_ble_eq_true rfl) ⟨Nat.zero_le _, Nat.zero_le _⟩ (fun r3 S2 h => ?_)
  refine jIf_ne C 15 17 (by decide +kernel : decode cX11_ask 12 = .ok (.ifCond .ne 5, 3)) rfl rfl (fun c4 => ?_) (fun c4 => ?_)
  · have h := it2 h c4
    refine jLdcw C 20 (by decide +kernel : decode cX11_ask 17 = .ok (.ldc_w 495, 3)) rfl wd_1711 ?_
    refine jB C [(.istore_n 2, 1, 0), (.iconst (-1), 1, (-1)), (.istore_n 3, 1, 0), (.iconst 0, 1, 0), (.istore 4, 2, 0)] 26 [(4, .int 0), (3, .int (-1)), (2, .int 100000000), (0, .ref (b + v0)), (1, .int v1)] [] (by decide +kernel) rfl rfl ?_
    refine jSub [3, 4, 2, 1, 0] rfl ?_
    exact j_X11_ask_26 C hE t_v0 h
  · have h := it1 h c4
    refine jB C [(.iconst (-1), 1, (-1))] 16 [(0, .ref (b + v0)), (1, .int v1)] [.int (-1)] (by decide +kernel) rfl rfl ?_
    exact jRetI C (by decide +kernel : decode cX11_ask 16 = .ok (.ireturn, 1)) (Nat.le_refl _) (Nat.le_refl _) ⟨rfl, h⟩
theorem ok_X11_ask {G : Gm} {v0 : Nat} {v1 : Int32} {S : St} {Q : Int32 → St → Prop} (t_v0 : ok G 10 v0) (h : f_X11_ask G v0 v1 Q S) : MT yX11_ask cX11_ask 6 (some .int) rm_X11_ask 0 0 (fun b => [.ref (b + v0), .int v1]) G S (QI (fun r G1 S1 => G1 = G ∧ Q r S1)) := MT.ofJ (by decide) (fun b => [(0, .ref (b + v0)), (1, .int v1)]) (fun b => rfl) (fun b => Nat.le_of_ble_eq_true rfl) (fun l b D cy p e s m below meth c C hE hn => j_X11_ask C hE t_v0 h)
theorem hd_X11_ask : yX11_ask.cls ≠ "java/lang/invoke/MethodHandle" ∧ yX11_ask.cls ≠ "java/lang/invoke/VarHandle" ∧ (parseMethodDescriptor yX11_ask.desc).map (fun d => d.parameters.length) = some 1 := by decide +kernel
def f_X11_asks (G : Gm) (v0 : Nat) (v1 : Int32) (v2 : Int32) (v3 : Int32) (Q : Int32 → St → Prop) (S : St) : Prop :=
  (∀ S1, S1 = uI S v0 0 0 → f_X11_isPerson G v0 v1 (fun r3 S2 => (if r3 = 0 then Q (-100) S2 else f_X11_isKind G v2 (fun r6 S5 => (if r6 = 0 then Q (-100) S5 else f_X11_in G v3.toInt64 0 1 (fun r9 S8 => (if r9 = 0 then Q (-100) S8 else (if v3 = 0 then f_X11_grindsOf G v0 v1 v2 (fun r15 S14 => Q r15 S14) S8 else f_X11_growsOf G v0 v1 v2 (fun r13 S12 => Q r13 S12) S8))) S5)) S2)) S1)
abbrev rm_X11_asks : Room := { frames := 7, cells := 0, slots := 0, locals := 165 }
set_option maxHeartbeats 4000000 in
set_option maxRecDepth 100000 in
theorem j_X11_asks {p : Program} {l : Launch} {e : Env} {s : State} {m : MethodId} {args : Array Value} {below : List Frame} {meth : Method} {c : Code} {b : Nat} {D : va_G} {cy : Nat → ClassId} {G : Gm} {v0 : Nat} {v1 : Int32} {v2 : Int32} {v3 : Int32} {S : St} {Q : Int32 → St → Prop} (C : CX p s m args meth c b D cy cX11_asks RX11 4 (some .int)) (hE : s.heap.size + 0 ≤ b + G.2.2) (t_v0 : ok G 10 v0) (h : f_X11_asks G v0 v1 v2 v3 Q S) : J p l e rm_X11_asks s m args below meth c b D cy 4 (zI b D cy below args s G Q) 0 0 G S 0 [(0, .ref (b + v0)), (1, .int v1), (2, .int v2), (3, .int v3)] [] := by
  unfold f_X11_asks at h
  refine jB C [(.aload_n 0, 1, 0), (.iconst 0, 1, 0)] 2 [(0, .ref (b + v0)), (1, .int v1), (2, .int v2), (3, .int v3)] [.int 0, .ref (b + v0)] (by decide +kernel) rfl rfl ?_
  refine jPutI C 5 (by decide +kernel : decode cX11_asks 2 = .ok (.putfield 165, 3)) rfl hE t_v0 kX11 0 (by decide) rfl rfl (by decide) rfl wd_1154 rfl rfl rfl ?_
  refine jTopS (fun S1 e_S1 => ?_)
  have h := h S1 e_S1
  refine jB C [(.aload_n 0, 1, 0), (.iload_n 1, 1, 0)] 7 [(0, .ref (b + v0)), (1, .int v1), (2, .int v2), (3, .int v3)] [.int v1, .ref (b + v0)] (by decide +kernel) rfl rfl ?_
  refine jcV_I C 10 (rest := []) (ok_X11_isPerson t_v0 h) (by decide +kernel : decode cX11_asks 7 = .ok (.invokevirtual 209, 3)) rfl wd_1376 wd_1378 wp_103 wd_12 wd_1379 ⟨rfl, rfl⟩ hd_X11_isPerson ⟨Nat.le_of_ble_eq_true rfl, Nat.le_of_ble_eq_true rfl⟩ t_v0 kX11 (by decide) rfl rfl rfl (Nat.le_of_ble_eq_true rfl) ⟨Nat.zero_le _, Nat.zero_le _⟩ (fun r3 S2 h => ?_)
  refine jIf_eq C 13 30 (by decide +kernel : decode cX11_asks 10 = .ok (.ifCond .eq 20, 3)) rfl rfl (fun c4 => ?_) (fun c4 => ?_)
  · have h := it1 h c4
    refine jB C [(.bipush (-100), 2, (-100))] 32 [(0, .ref (b + v0)), (1, .int v1), (2, .int v2), (3, .int v3)] [.int (-100)] (by decide +kernel) rfl rfl ?_
    exact jRetI C (by decide +kernel : decode cX11_asks 32 = .ok (.ireturn, 1)) (Nat.le_refl _) (Nat.le_refl _) ⟨rfl, h⟩
  · have h := it2 h c4
    refine jB C [(.iload_n 2, 1, 0)] 14 [(0, .ref (b + v0)), (1, .int v1), (2, .int v2), (3, .int v3)] [.int v2] (by decide +kernel) rfl rfl ?_
    refine jcS_I C 17 (rest := []) (ok_X11_isKind h) (by decide +kernel : decode cX11_asks 14 = .ok (.invokestatic 224, 3)) rfl wd_1438 wd_1439 wd_12 wd_1440 ⟨rfl, rfl⟩ hd_X11_isKind ⟨Nat.le_of_ble_eq_true rfl, Nat.le_of_ble_eq_true rfl⟩ rfl rfl (Nat.le_of_ble_eq_true rfl) ⟨Nat.zero_le _, Nat.zero_le _⟩ (fun r6 S5 h => ?_)
    refine jIf_eq C 20 30 (by decide +kernel : decode cX11_asks 17 = .ok (.ifCond .eq 13, 3)) rfl rfl (fun c7 => ?_) (fun c7 => ?_)
    · have h := it1 h c7
      refine jB C [(.bipush (-100), 2, (-100))] 32 [(0, .ref (b + v0)), (1, .int v1), (2, .int v2), (3, .int v3)] [.int (-100)] (by decide +kernel) rfl rfl ?_
      exact jRetI C (by decide +kernel : decode cX11_asks 32 = .ok (.ireturn, 1)) (Nat.le_refl _) (Nat.le_refl _) ⟨rfl, h⟩
    · have h := it2 h c7
      refine jB C [(.iload_n 3, 1, 0), (.i2l, 1, 0), (.lconst 0, 1, 0), (.lconst 1, 1, 0)] 24 [(0, .ref (b + v0)), (1, .int v1), (2, .int v2), (3, .int v3)] [.long 1, .long 0, .long v3.toInt64] (by decide +kernel) rfl rfl ?_
      refine jcS_I C 27 (rest := []) (ok_X11_in h) (by decide +kernel : decode cX11_asks 24 = .ok (.invokestatic 185, 3)) rfl wd_1352 wd_1353 wd_12 wd_1354 ⟨rfl, rfl⟩ hd_X11_in ⟨Nat.le_of_ble_eq_true rfl, Nat.le_of_ble_eq_true rfl⟩ rfl rfl (Nat.le_of_ble_eq_true rfl) ⟨Nat.zero_le _, Nat.zero_le _⟩ (fun r9 S8 h => ?_)
      refine jIf_ne C 30 33 (by decide +kernel : decode cX11_asks 27 = .ok (.ifCond .ne 6, 3)) rfl rfl (fun c10 => ?_) (fun c10 => ?_)
      · have h := it2 h c10
        refine jB C [(.iload_n 3, 1, 0)] 34 [(0, .ref (b + v0)), (1, .int v1), (2, .int v2), (3, .int v3)] [.int v3] (by decide +kernel) rfl rfl ?_
        refine jIf_ne C 37 46 (by decide +kernel : decode cX11_asks 34 = .ok (.ifCond .ne 12, 3)) rfl rfl (fun c11 => ?_) (fun c11 => ?_)
        · have h := it2 h c11
          refine jB C [(.aload_n 0, 1, 0), (.iload_n 1, 1, 0), (.iload_n 2, 1, 0)] 49 [(0, .ref (b + v0)), (1, .int v1), (2, .int v2), (3, .int v3)] [.int v2, .int v1, .ref (b + v0)] (by decide +kernel) rfl rfl ?_
          refine jcV_I C 52 (rest := []) (ok_X11_growsOf t_v0 h) (by decide +kernel : decode cX11_asks 49 = .ok (.invokevirtual 230, 3)) rfl wd_1445 wd_1447 wp_115 wd_12 wd_1448 ⟨rfl, rfl⟩ hd_X11_growsOf ⟨Nat.le_of_ble_eq_true rfl, Nat.le_of_ble_eq_true rfl⟩ t_v0 kX11 (by decide) rfl rfl rfl (Nat.le_of_ble_eq_true rfl) ⟨Nat.zero_le _, Nat.zero_le _⟩ (fun r13 S12 h => ?_)
          exact jRetI C (by decide +kernel : decode cX11_asks 52 = .ok (.ireturn, 1)) (Nat.le_refl _) (Nat.le_refl _) ⟨rfl, h⟩
        · have h := it1 h c11
          refine jB C [(.aload_n 0, 1, 0), (.iload_n 1, 1, 0), (.iload_n 2, 1, 0)] 40 [(0, .ref (b + v0)), (1, .int v1), (2, .int v2), (3, .int v3)] [.int v2, .int v1, .ref (b + v0)] (by decide +kernel) rfl rfl ?_
          refine jcV_I C 43 (rest := []) (ok_X11_grindsOf t_v0 h) (by decide +kernel : decode cX11_asks 40 = .ok (.invokevirtual 227, 3)) rfl wd_1441 wd_1443 wp_114 wd_12 wd_1444 ⟨rfl, rfl⟩ hd_X11_grindsOf ⟨Nat.le_of_ble_eq_true rfl, Nat.le_of_ble_eq_true rfl⟩ t_v0 kX11 (by decide) rfl rfl rfl (Nat.le_of_ble_eq_true rfl) ⟨Nat.zero_le _, Nat.zero_le _⟩ (fun r15 S14 h => ?_)
          refine jGoto C 52 (by decide +kernel : decode cX11_asks 43 = .ok (.goto 9, 3)) rfl ?_
          exact jRetI C (by decide +kernel : decode cX11_asks 52 = .ok (.ireturn, 1)) (Nat.le_refl _) (Nat.le_refl _) ⟨rfl, h⟩
      · have h := it1 h c10
        refine jB C [(.bipush (-100), 2, (-100))] 32 [(0, .ref (b + v0)), (1, .int v1), (2, .int v2), (3, .int v3)] [.int (-100)] (by decide +kernel) rfl rfl ?_
        exact jRetI C (by decide +kernel : decode cX11_asks 32 = .ok (.ireturn, 1)) (Nat.le_refl _) (Nat.le_refl _) ⟨rfl, h⟩
theorem ok_X11_asks {G : Gm} {v0 : Nat} {v1 : Int32} {v2 : Int32} {v3 : Int32} {S : St} {Q : Int32 → St → Prop} (t_v0 : ok G 10 v0) (h : f_X11_asks G v0 v1 v2 v3 Q S) : MT yX11_asks cX11_asks 4 (some .int) rm_X11_asks 0 0 (fun b => [.ref (b + v0), .int v1, .int v2, .int v3]) G S (QI (fun r G1 S1 => G1 = G ∧ Q r S1)) := MT.ofJ (by decide) (fun b => [(0, .ref (b + v0)), (1, .int v1), (2, .int v2), (3, .int v3)]) (fun b => rfl) (fun b => Nat.le_of_ble_eq_true rfl) (fun l b D cy p e s m below meth c C hE hn => j_X11_asks C hE t_v0 h)
theorem hd_X11_asks : yX11_asks.cls ≠ "java/lang/invoke/MethodHandle" ∧ yX11_asks.cls ≠ "java/lang/invoke/VarHandle" ∧ (parseMethodDescriptor yX11_asks.desc).map (fun d => d.parameters.length) = some 3 := by decide +kernel
