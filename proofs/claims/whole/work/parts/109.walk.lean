def f_X11_tell_10 (G : Gm) (v0 : Nat) (v1 : Int32) (u0 : Int32) (u1 : Nat) (Q : Int32 → St → Prop) (S : St) : Prop :=
  (∀ S1, S1 = uI S u1 1 u0 → (if 0 ≤ v1 then Q v1 S1 else (∃ a3, S1.2.2 v0 2 = some a3 ∧ (vp_in (-v1) (G.2.1 a3) ∧ (vp_in (-v1) (G.2.1 a3) ∧ ∀ S6, S6 = uI S1 a3 (-v1).toNatClampNeg ((S1.1 a3 (-v1).toNatClampNeg) + 1) → Q v1 S6)))))
def f_X11_tell (G : Gm) (v0 : Nat) (v1 : Int32) (Q : Int32 → St → Prop) (S : St) : Prop :=
  (if 0 ≤ v1 then f_X11_tell_10 G v0 v1 0 v0 Q S else f_X11_tell_10 G v0 v1 v1 v0 Q S)
abbrev rm_X11_tell : Room := { frames := 0, cells := 0, slots := 0, locals := 0 }
set_option maxHeartbeats 4000000 in
set_option maxRecDepth 100000 in
theorem j_X11_tell_10 {p : Program} {l : Launch} {e : Env} {s : State} {m : MethodId} {args : Array Value} {below : List Frame} {meth : Method} {c : Code} {b : Nat} {D : va_G} {cy : Nat → ClassId} {G : Gm} {v0 : Nat} {v1 : Int32} {u0 : Int32} {u1 : Nat} {S : St} {Q : Int32 → St → Prop} (C : CX p s m args meth c b D cy cX11_tell RX11 2 (some .int)) (hE : s.heap.size + 0 ≤ b + G.2.2) (t_v0 : ok G 10 v0) (t_u1 : ok G 10 u1) (h : f_X11_tell_10 G v0 v1 u0 u1 Q S) : J p l e rm_X11_tell s m args below meth c b D cy 2 (zI b D cy below args s G Q) 0 0 G S 10 [(0, .ref (b + v0)), (1, .int v1)] [.int u0, .ref (b + u1)] := by
  unfold f_X11_tell_10 at h
  refine jPutI C 13 (by decide +kernel : decode cX11_tell 10 = .ok (.putfield 168, 3)) rfl hE t_u1 kX11 1 (by decide) rfl rfl (by decide) rfl wd_1155 rfl rfl rfl ?_
  refine jTopS (fun S1 e_S1 => ?_)
  have h := h S1 e_S1
  refine jB C [(.iload_n 1, 1, 0)] 14 [(0, .ref (b + v0)), (1, .int v1)] [.int v1] (by decide +kernel) rfl rfl ?_
  refine jIf_ge C 17 28 (by decide +kernel : decode cX11_tell 14 = .ok (.ifCond .ge 14, 3)) rfl rfl (fun c2 => ?_) (fun c2 => ?_)
  · have h := it1 h c2
    refine jB C [(.iload_n 1, 1, 0)] 29 [(0, .ref (b + v0)), (1, .int v1)] [.int v1] (by decide +kernel) rfl rfl ?_
    exact jRetI C (by decide +kernel : decode cX11_tell 29 = .ok (.ireturn, 1)) (Nat.le_refl _) (Nat.le_refl _) ⟨rfl, h⟩
  · have h := it2 h c2
    refine jB C [(.aload_n 0, 1, 0)] 18 [(0, .ref (b + v0)), (1, .int v1)] [.ref (b + v0)] (by decide +kernel) rfl rfl ?_
    obtain ⟨a3, e_a3, h⟩ := h
    refine jGetR C 21 (by decide +kernel : decode cX11_tell 18 = .ok (.getfield 7, 3)) rfl t_v0 kX11 2 (by decide) rfl rfl (by decide) wd_1156 e_a3 rfl (fun t_a3 => ?_)
    refine jB C [(.iload_n 1, 1, 0), (.ineg, 1, 0), (.dup2, 1, 0)] 24 [(0, .ref (b + v0)), (1, .int v1)] [.int (-v1), .ref (b + a3), .int (-v1), .ref (b + a3)] (by decide +kernel) rfl rfl ?_
    obtain ⟨y4, h⟩ := h
    refine jIald C 25 (by decide +kernel : decode cX11_tell 24 = .ok (.iaload, 1)) rfl t_a3 y4 ?_
    refine jB C [(.iconst 1, 1, 1), (.iadd, 1, 0)] 27 [(0, .ref (b + v0)), (1, .int v1)] [.int ((S1.1 a3 (-v1).toNatClampNeg) + 1), .int (-v1), .ref (b + a3)] (by decide +kernel) rfl rfl ?_
    obtain ⟨y5, h⟩ := h
    refine jIast C 28 (by decide +kernel : decode cX11_tell 27 = .ok (.iastore, 1)) rfl hE t_a3 y5 ?_
    refine jTopS (fun S6 e_S6 => ?_)
    have h := h S6 e_S6
    refine jB C [(.iload_n 1, 1, 0)] 29 [(0, .ref (b + v0)), (1, .int v1)] [.int v1] (by decide +kernel) rfl rfl ?_
    exact jRetI C (by decide +kernel : decode cX11_tell 29 = .ok (.ireturn, 1)) (Nat.le_refl _) (Nat.le_refl _) ⟨rfl, h⟩
set_option maxHeartbeats 4000000 in
set_option maxRecDepth 100000 in
theorem j_X11_tell {p : Program} {l : Launch} {e : Env} {s : State} {m : MethodId} {args : Array Value} {below : List Frame} {meth : Method} {c : Code} {b : Nat} {D : va_G} {cy : Nat → ClassId} {G : Gm} {v0 : Nat} {v1 : Int32} {S : St} {Q : Int32 → St → Prop} (C : CX p s m args meth c b D cy cX11_tell RX11 2 (some .int)) (hE : s.heap.size + 0 ≤ b + G.2.2) (t_v0 : ok G 10 v0) (h : f_X11_tell G v0 v1 Q S) : J p l e rm_X11_tell s m args below meth c b D cy 2 (zI b D cy below args s G Q) 0 0 G S 0 [(0, .ref (b + v0)), (1, .int v1)] [] := by
  unfold f_X11_tell at h
  refine jB C [(.aload_n 0, 1, 0), (.iload_n 1, 1, 0)] 2 [(0, .ref (b + v0)), (1, .int v1)] [.int v1, .ref (b + v0)] (by decide +kernel) rfl rfl ?_
  refine jIf_ge C 5 9 (by decide +kernel : decode cX11_tell 2 = .ok (.ifCond .ge 7, 3)) rfl rfl (fun c1 => ?_) (fun c1 => ?_)
  · have h := it1 h c1
    refine jB C [(.iconst 0, 1, 0)] 10 [(0, .ref (b + v0)), (1, .int v1)] [.int 0, .ref (b + v0)] (by decide +kernel) rfl rfl ?_
    refine jSub [0, 1] rfl ?_
    exact j_X11_tell_10 C hE t_v0 t_v0 h
  · have h := it2 h c1
    refine jB C [(.iload_n 1, 1, 0)] 6 [(0, .ref (b + v0)), (1, .int v1)] [.int v1, .ref (b + v0)] (by decide +kernel) rfl rfl ?_
    refine jGoto C 10 (by decide +kernel : decode cX11_tell 6 = .ok (.goto 4, 3)) rfl ?_
    refine jSub [0, 1] rfl ?_
    exact j_X11_tell_10 C hE t_v0 t_v0 h
theorem ok_X11_tell {G : Gm} {v0 : Nat} {v1 : Int32} {S : St} {Q : Int32 → St → Prop} (t_v0 : ok G 10 v0) (h : f_X11_tell G v0 v1 Q S) : MT yX11_tell cX11_tell 2 (some .int) rm_X11_tell 0 0 (fun b => [.ref (b + v0), .int v1]) G S (QI (fun r G1 S1 => G1 = G ∧ Q r S1)) := MT.ofJ (by decide) (fun b => [(0, .ref (b + v0)), (1, .int v1)]) (fun b => rfl) (fun b => Nat.le_of_ble_eq_true rfl) (fun l b D cy p e s m below meth c C hE hn => j_X11_tell C hE t_v0 h)
theorem hd_X11_tell : yX11_tell.cls ≠ "java/lang/invoke/MethodHandle" ∧ yX11_tell.cls ≠ "java/lang/invoke/VarHandle" ∧ (parseMethodDescriptor yX11_tell.desc).map (fun d => d.parameters.length) = some 1 := by decide +kernel
def f_X11_settled_13 (G : Gm) (v0 : Nat) (v1 : Int32) (u0 : Int32) (u1 : Nat) (Q : Int32 → St → Prop) (S : St) : Prop :=
  (∀ S1, S1 = uI S u1 9 u0 → f_X11_tell G v0 v1 (fun r3 S2 => Q r3 S2) S1)
def f_X11_settled (G : Gm) (v0 : Nat) (v1 : Int32) (Q : Int32 → St → Prop) (S : St) : Prop :=
  (if 0 ≤ v1 then f_X11_settled_13 G v0 v1 0 v0 Q S else f_X11_settled_13 G v0 v1 (S.1 v0 9) v0 Q S)
abbrev rm_X11_settled : Room := { frames := 1, cells := 0, slots := 0, locals := 21 }
set_option maxHeartbeats 4000000 in
set_option maxRecDepth 100000 in
theorem j_X11_settled_13 {p : Program} {l : Launch} {e : Env} {s : State} {m : MethodId} {args : Array Value} {below : List Frame} {meth : Method} {c : Code} {b : Nat} {D : va_G} {cy : Nat → ClassId} {G : Gm} {v0 : Nat} {v1 : Int32} {u0 : Int32} {u1 : Nat} {S : St} {Q : Int32 → St → Prop} (C : CX p s m args meth c b D cy cX11_settled RX11 2 (some .int)) (hE : s.heap.size + 0 ≤ b + G.2.2) (t_v0 : ok G 10 v0) (t_u1 : ok G 10 u1) (h : f_X11_settled_13 G v0 v1 u0 u1 Q S) : J p l e rm_X11_settled s m args below meth c b D cy 2 (zI b D cy below args s G Q) 0 0 G S 13 [(0, .ref (b + v0)), (1, .int v1)] [.int u0, .ref (b + u1)] := by
  unfold f_X11_settled_13 at h
  refine jPutI C 16 (by decide +kernel : decode cX11_settled 13 = .ok (.putfield 171, 3)) rfl hE t_u1 kX11 9 (by decide) rfl rfl (by decide) rfl wd_1163 rfl rfl rfl ?_
  refine jTopS (fun S1 e_S1 => ?_)
  have h := h S1 e_S1
  refine jB C [(.aload_n 0, 1, 0), (.iload_n 1, 1, 0)] 18 [(0, .ref (b + v0)), (1, .int v1)] [.int v1, .ref (b + v0)] (by decide +kernel) rfl rfl ?_
  refine jcV_I C 21 (rest := []) (ok_X11_tell t_v0 h) (by decide +kernel : decode cX11_settled 18 = .ok (.invokevirtual 174, 3)) rfl wd_1340 wd_1342 wp_99 wd_12 wd_1343 ⟨rfl, rfl⟩ hd_X11_tell ⟨Nat.le_of_ble_eq_true rfl, Nat.le_of_ble_eq_true rfl⟩ t_v0 kX11 (by decide) rfl rfl rfl (Nat.le_of_ble_eq_true rfl) ⟨Nat.zero_le _, Nat.zero_le _⟩ (fun r3 S2 h => ?_)
  exact jRetI C (by decide +kernel : decode cX11_settled 21 = .ok (.ireturn, 1)) (Nat.le_refl _) (Nat.le_refl _) ⟨rfl, h⟩
set_option maxHeartbeats 4000000 in
set_option maxRecDepth 100000 in
theorem j_X11_settled {p : Program} {l : Launch} {e : Env} {s : State} {m : MethodId} {args : Array Value} {below : List Frame} {meth : Method} {c : Code} {b : Nat} {D : va_G} {cy : Nat → ClassId} {G : Gm} {v0 : Nat} {v1 : Int32} {S : St} {Q : Int32 → St → Prop} (C : CX p s m args meth c b D cy cX11_settled RX11 2 (some .int)) (hE : s.heap.size + 0 ≤ b + G.2.2) (t_v0 : ok G 10 v0) (h : f_X11_settled G v0 v1 Q S) : J p l e rm_X11_settled s m args below meth c b D cy 2 (zI b D cy below args s G Q) 0 0 G S 0 [(0, .ref (b + v0)), (1, .int v1)] [] := by
  unfold f_X11_settled at h
  refine jB C [(.aload_n 0, 1, 0), (.iload_n 1, 1, 0)] 2 [(0, .ref (b + v0)), (1, .int v1)] [.int v1, .ref (b + v0)] (by decide +kernel) rfl rfl ?_
  refine jIf_ge C 5 12 (by decide +kernel : decode cX11_settled 2 = .ok (.ifCond .ge 10, 3)) rfl rfl (fun c1 => ?_) (fun c1 => ?_)
  · have h := it1 h c1
    refine jB C [(.iconst 0, 1, 0)] 13 [(0, .ref (b + v0)), (1, .int v1)] [.int 0, .ref (b + v0)] (by decide +kernel) rfl rfl ?_
    refine jSub [0, 1] rfl ?_
    exact j_X11_settled_13 C hE t_v0 t_v0 h
  · have h := it2 h c1
    refine jB C [(.aload_n 0, 1, 0)] 6 [(0, .ref (b + v0)), (1, .int v1)] [.ref (b + v0), .ref (b + v0)] (by decide +kernel) rfl rfl ?_
    refine jGetI C 9 (by decide +kernel : decode cX11_settled 6 = .ok (.getfield 171, 3)) rfl t_v0 kX11 9 (by decide) rfl rfl (by decide) wd_1163 ?_
    refine jGoto C 13 (by decide +kernel : decode cX11_settled 9 = .ok (.goto 4, 3)) rfl ?_
    refine jSub [0, 1] rfl ?_
    exact j_X11_settled_13 C hE t_v0 t_v0 h
theorem ok_X11_settled {G : Gm} {v0 : Nat} {v1 : Int32} {S : St} {Q : Int32 → St → Prop} (t_v0 : ok G 10 v0) (h : f_X11_settled G v0 v1 Q S) : MT yX11_settled cX11_settled 2 (some .int) rm_X11_settled 0 0 (fun b => [.ref (b + v0), .int v1]) G S (QI (fun r G1 S1 => G1 = G ∧ Q r S1)) := MT.ofJ (by decide) (fun b => [(0, .ref (b + v0)), (1, .int v1)]) (fun b => rfl) (fun b => Nat.le_of_ble_eq_true rfl) (fun l b D cy p e s m below meth c C hE hn => j_X11_settled C hE t_v0 h)
theorem hd_X11_settled : yX11_settled.cls ≠ "java/lang/invoke/MethodHandle" ∧ yX11_settled.cls ≠ "java/lang/invoke/VarHandle" ∧ (parseMethodDescriptor yX11_settled.desc).map (fun d => d.parameters.length) = some 1 := by decide +kernel
def f_X11_back_39_n (G : Gm) (v0 : Nat) (v1 : Int32) (Q : Int32 → St → Prop) : Nat → Int32 → St → Prop
  | 0, _, _ => False
  | n + 1, v2, S => (if 5485 ≤ v2 then f_X11_settled G v0 0 (fun r3 S2 => Q r3 S2) S else (∃ a4, S.2.2 v0 4 = some a4 ∧ (∃ a5, S.2.2 v0 5 = some a5 ∧ (vp_in ((5485 * v1) + v2) (G.2.1 a5) ∧ (vp_in v2 (G.2.1 a4) ∧ ∀ S8, S8 = uI S a4 v2.toNatClampNeg (S.1 a5 ((5485 * v1) + v2).toNatClampNeg) → (f_X11_back_39_n G v0 v1 Q n) (v2 + 1) S8)))))
def f_X11_back_39 (G : Gm) (v0 : Nat) (v1 : Int32) (Q : Int32 → St → Prop) (v2 : Int32) (S : St) : Prop := ∃ n, f_X11_back_39_n G v0 v1 Q n v2 S
def f_X11_back (G : Gm) (v0 : Nat) (v1 : Int32) (Q : Int32 → St → Prop) (S : St) : Prop :=
  (∀ S1, S1 = uI S v0 0 0 → f_X11_in G v1.toInt64 0 1 (fun r3 S2 => (if r3 = 0 then f_X11_tell G v0 (-1) (fun r11 S10 => Q r11 S10) S2 else (∃ a5, S2.2.2 v0 6 = some a5 ∧ (vp_in v1 (G.2.1 a5) ∧ (if (S2.1 a5 v1.toNatClampNeg) = 0 then f_X11_tell G v0 (-2) (fun r9 S8 => Q r9 S8) S2 else f_X11_back_39 G v0 v1 Q 0 S2))))) S1)
abbrev rm_X11_back : Room := { frames := 2, cells := 0, slots := 0, locals := 42 }
set_option maxHeartbeats 4000000 in
set_option maxRecDepth 100000 in
theorem j_X11_back_39_n {p : Program} {l : Launch} {e : Env} {s : State} {m : MethodId} {args : Array Value} {below : List Frame} {meth : Method} {c : Code} {b : Nat} {D : va_G} {cy : Nat → ClassId} {G : Gm} {v0 : Nat} {v1 : Int32} {Q : Int32 → St → Prop} (C : CX p s m args meth c b D cy cX11_back RX11 3 (some .int)) (hE : s.heap.size + 0 ≤ b + G.2.2) (t_v0 : ok G 10 v0) : ∀ n (v2 : Int32) S, f_X11_back_39_n G v0 v1 Q n v2 S → J p l e rm_X11_back s m args below meth c b D cy 3 (zI b D cy below args s G Q) 0 0 G S 39 [(0, .ref (b + v0)), (1, .int v1), (2, .int v2)] [] := by
  intro n
  induction n with
  | zero => intro v2 S h; exact h.elim
  | succ n ih =>
    intro v2 S h
    unfold f_X11_back_39_n at h
    refine jB C [(.iload_n 2, 1, 0), (.sipush 5485, 3, 5485)] 43 [(0, .ref (b + v0)), (1, .int v1), (2, .int v2)] [.int 5485, .int v2] (by decide +kernel) rfl rfl ?_
    refine jIcmp_ge C 46 70 (by decide +kernel : decode cX11_back 43 = .ok (.if_icmp .ge 27, 3)) rfl rfl (fun c1 => ?_) (fun c1 => ?_)
    · have h := it1 h c1
      refine jB C [(.aload_n 0, 1, 0), (.iconst 0, 1, 0)] 72 [(0, .ref (b + v0)), (1, .int v1), (2, .int v2)] [.int 0, .ref (b + v0)] (by decide +kernel) rfl rfl ?_
      refine jcV_I C 75 (rest := []) (ok_X11_settled t_v0 h) (by decide +kernel : decode cX11_back 72 = .ok (.invokevirtual 189, 3)) rfl wd_1359 wd_1361 wp_101 wd_12 wd_1362 ⟨rfl, rfl⟩ hd_X11_settled ⟨Nat.le_of_ble_eq_true rfl, Nat.le_of_ble_eq_true rfl⟩ t_v0 kX11 (by decide) rfl rfl rfl (Nat.le_of_ble_eq_true rfl) ⟨Nat.zero_le _, Nat.zero_le _⟩ (fun r3 S2 h => ?_)
      exact jRetI C (by decide +kernel : decode cX11_back 75 = .ok (.ireturn, 1)) (Nat.le_refl _) (Nat.le_refl _) ⟨rfl, h⟩
    · have h := it2 h c1
      refine jB C [(.aload_n 0, 1, 0)] 47 [(0, .ref (b + v0)), (1, .int v1), (2, .int v2)] [.ref (b + v0)] (by decide +kernel) rfl rfl ?_
      obtain ⟨a4, e_a4, h⟩ := h
      refine jGetR C 50 (by decide +kernel : decode cX11_back 47 = .ok (.getfield 16, 3)) rfl t_v0 kX11 4 (by decide) rfl rfl (by decide) wd_1158 e_a4 rfl (fun t_a4 => ?_)
      refine jB C [(.iload_n 2, 1, 0), (.aload_n 0, 1, 0)] 52 [(0, .ref (b + v0)), (1, .int v1), (2, .int v2)] [.ref (b + v0), .int v2, .ref (b + a4)] (by decide +kernel) rfl rfl ?_
      obtain ⟨a5, e_a5, h⟩ := h
      refine jGetR C 55 (by decide +kernel : decode cX11_back 52 = .ok (.getfield 19, 3)) rfl t_v0 kX11 5 (by decide) rfl rfl (by decide) wd_1159 e_a5 rfl (fun t_a5 => ?_)
      refine jB C [(.sipush 5485, 3, 5485), (.iload_n 1, 1, 0), (.imul, 1, 0), (.iload_n 2, 1, 0), (.iadd, 1, 0)] 62 [(0, .ref (b + v0)), (1, .int v1), (2, .int v2)] [.int ((5485 * v1) + v2), .ref (b + a5), .int v2, .ref (b + a4)] (by decide +kernel) rfl rfl ?_
      obtain ⟨y6, h⟩ := h
      refine jIald C 63 (by decide +kernel : decode cX11_back 62 = .ok (.iaload, 1)) rfl t_a5 y6 ?_
      obtain ⟨y7, h⟩ := h
      refine jIast C 64 (by decide +kernel : decode cX11_back 63 = .ok (.iastore, 1)) rfl hE t_a4 y7 ?_
      refine jTopS (fun S8 e_S8 => ?_)
      have h := h S8 e_S8
      refine jB C [(.iinc 2 1, 3, 1)] 67 [(2, .int (v2 + 1)), (0, .ref (b + v0)), (1, .int v1)] [] (by decide +kernel) rfl rfl ?_
      refine jGoto C 39 (by decide +kernel : decode cX11_back 67 = .ok (.goto (-28), 3)) rfl ?_
      refine jSub [1, 2, 0] rfl ?_
      exact ih (v2 + 1) S8 h
theorem j_X11_back_39 {p : Program} {l : Launch} {e : Env} {s : State} {m : MethodId} {args : Array Value} {below : List Frame} {meth : Method} {c : Code} {b : Nat} {D : va_G} {cy : Nat → ClassId} {G : Gm} {v0 : Nat} {v1 : Int32} {v2 : Int32} {S : St} {Q : Int32 → St → Prop} (C : CX p s m args meth c b D cy cX11_back RX11 3 (some .int)) (hE : s.heap.size + 0 ≤ b + G.2.2) (t_v0 : ok G 10 v0) (h : f_X11_back_39 G v0 v1 Q v2 S) : J p l e rm_X11_back s m args below meth c b D cy 3 (zI b D cy below args s G Q) 0 0 G S 39 [(0, .ref (b + v0)), (1, .int v1), (2, .int v2)] [] := by
  obtain ⟨n, h⟩ := h
  exact j_X11_back_39_n C hE t_v0 n v2 S h
set_option maxHeartbeats 4000000 in
set_option maxRecDepth 100000 in
theorem j_X11_back {p : Program} {l : Launch} {e : Env} {s : State} {m : MethodId} {args : Array Value} {below : List Frame} {meth : Method} {c : Code} {b : Nat} {D : va_G} {cy : Nat → ClassId} {G : Gm} {v0 : Nat} {v1 : Int32} {S : St} {Q : Int32 → St → Prop} (C : CX p s m args meth c b D cy cX11_back RX11 3 (some .int)) (hE : s.heap.size + 0 ≤ b + G.2.2) (t_v0 : ok G 10 v0) (h : f_X11_back G v0 v1 Q S) : J p l e rm_X11_back s m args below meth c b D cy 3 (zI b D cy below args s G Q) 0 0 G S 0 [(0, .ref (b + v0)), (1, .int v1)] [] := by
  unfold f_X11_back at h
  refine jB C [(.aload_n 0, 1, 0), (.iconst 0, 1, 0)] 2 [(0, .ref (b + v0)), (1, .int v1)] [.int 0, .ref (b + v0)] (by decide +kernel) rfl rfl ?_
  refine jPutI C 5 (by decide +kernel : decode cX11_back 2 = .ok (.putfield 165, 3)) rfl hE t_v0 kX11 0 (by decide) rfl rfl (by decide) rfl wd_1154 rfl rfl rfl ?_
  refine jTopS (fun S1 e_S1 => ?_)
  have h := h S1 e_S1
  refine jB C [(.iload_n 1, 1, 0), (.i2l, 1, 0), (.lconst 0, 1, 0), (.lconst 1, 1, 0)] 9 [(0, .ref (b + v0)), (1, .int v1)] [.long 1, .long 0, .long v1.toInt64] (by decide +kernel) rfl rfl ?_
  refine jcS_I C 12 (rest := []) (ok_X11_in h) (by decide +kernel : decode cX11_back 9 = .ok (.invokestatic 185, 3)) rfl wd_1352 wd_1353 wd_12 wd_1354 ⟨rfl, rfl⟩ hd_X11_in ⟨Nat.le_of_ble_eq_true rfl, Nat.le_of_ble_eq_true rfl⟩ rfl rfl (Nat.le_of_ble_eq_true rfl) ⟨Nat.zero_le _, Nat.zero_le _⟩ (fun r3 S2 h => ?_)
  refine jIf_ne C 15 21 (by decide +kernel : decode cX11_back 12 = .ok (.ifCond .ne 9, 3)) rfl rfl (fun c4 => ?_) (fun c4 => ?_)
  · have h := it2 h c4
    refine jB C [(.aload_n 0, 1, 0)] 22 [(0, .ref (b + v0)), (1, .int v1)] [.ref (b + v0)] (by decide +kernel) rfl rfl ?_
    obtain ⟨a5, e_a5, h⟩ := h
    refine jGetR C 25 (by decide +kernel : decode cX11_back 22 = .ok (.getfield 22, 3)) rfl t_v0 kX11 6 (by decide) rfl rfl (by decide) wd_1160 e_a5 rfl (fun t_a5 => ?_)
    refine jB C [(.iload_n 1, 1, 0)] 26 [(0, .ref (b + v0)), (1, .int v1)] [.int v1, .ref (b + a5)] (by decide +kernel) rfl rfl ?_
    obtain ⟨y6, h⟩ := h
    refine jZald C 27 (by decide +kernel : decode cX11_back 26 = .ok (.baload, 1)) rfl t_a5 y6 ?_
    refine jIf_ne C 30 37 (by decide +kernel : decode cX11_back 27 = .ok (.ifCond .ne 10, 3)) rfl rfl (fun c7 => ?_) (fun c7 => ?_)
    · have h := it2 h c7
      refine jB C [(.iconst 0, 1, 0), (.istore_n 2, 1, 0)] 39 [(2, .int 0), (0, .ref (b + v0)), (1, .int v1)] [] (by decide +kernel) rfl rfl ?_
      refine jSub [1, 2, 0] rfl ?_
      exact j_X11_back_39 C hE t_v0 h
    · have h := it1 h c7
      refine jB C [(.aload_n 0, 1, 0), (.bipush (-2), 2, (-2))] 33 [(0, .ref (b + v0)), (1, .int v1)] [.int (-2), .ref (b + v0)] (by decide +kernel) rfl rfl ?_
      refine jcV_I C 36 (rest := []) (ok_X11_tell t_v0 h) (by decide +kernel : decode cX11_back 33 = .ok (.invokevirtual 174, 3)) rfl wd_1340 wd_1342 wp_99 wd_12 wd_1343 ⟨rfl, rfl⟩ hd_X11_tell ⟨Nat.le_of_ble_eq_true rfl, Nat.le_of_ble_eq_true rfl⟩ t_v0 kX11 (by decide) rfl rfl rfl (Nat.le_of_ble_eq_true rfl) ⟨Nat.zero_le _, Nat.zero_le _⟩ (fun r9 S8 h => ?_)
      exact jRetI C (by decide +kernel : decode cX11_back 36 = .ok (.ireturn, 1)) (Nat.le_refl _) (Nat.le_refl _) ⟨rfl, h⟩
  · have h := it1 h c4
    refine jB C [(.aload_n 0, 1, 0), (.iconst (-1), 1, (-1))] 17 [(0, .ref (b + v0)), (1, .int v1)] [.int (-1), .ref (b + v0)] (by decide +kernel) rfl rfl ?_
    refine jcV_I C 20 (rest := []) (ok_X11_tell t_v0 h) (by decide +kernel : decode cX11_back 17 = .ok (.invokevirtual 174, 3)) rfl wd_1340 wd_1342 wp_99 wd_12 wd_1343 ⟨rfl, rfl⟩ hd_X11_tell ⟨Nat.le_of_ble_eq_true rfl, Nat.le_of_ble_eq_true rfl⟩ t_v0 kX11 (by decide) rfl rfl rfl (Nat.le_of_ble_eq_true rfl) ⟨Nat.zero_le _, Nat.zero_le _⟩ (fun r11 S10 h => ?_)
    exact jRetI C (by decide +kernel : decode cX11_back 20 = .ok (.ireturn, 1)) (Nat.le_refl _) (Nat.le_refl _) ⟨rfl, h⟩
theorem ok_X11_back {G : Gm} {v0 : Nat} {v1 : Int32} {S : St} {Q : Int32 → St → Prop} (t_v0 : ok G 10 v0) (h : f_X11_back G v0 v1 Q S) : MT yX11_back cX11_back 3 (some .int) rm_X11_back 0 0 (fun b => [.ref (b + v0), .int v1]) G S (QI (fun r G1 S1 => G1 = G ∧ Q r S1)) := MT.ofJ (by decide) (fun b => [(0, .ref (b + v0)), (1, .int v1)]) (fun b => rfl) (fun b => Nat.le_of_ble_eq_true rfl) (fun l b D cy p e s m below meth c C hE hn => j_X11_back C hE t_v0 h)
theorem hd_X11_back : yX11_back.cls ≠ "java/lang/invoke/MethodHandle" ∧ yX11_back.cls ≠ "java/lang/invoke/VarHandle" ∧ (parseMethodDescriptor yX11_back.desc).map (fun d => d.parameters.length) = some 1 := by decide +kernel
def f_X11_isSmall (G : Gm) (v0 : Int32) (Q : Int32 → St → Prop) (S : St) : Prop :=
  (if v0 < 97 then Q 0 S else (if 122 < v0 then Q 0 S else Q 1 S))
abbrev rm_X11_isSmall : Room := { frames := 0, cells := 0, slots := 0, locals := 0 }
set_option maxHeartbeats 4000000 in
set_option maxRecDepth 100000 in
theorem j_X11_isSmall {p : Program} {l : Launch} {e : Env} {s : State} {m : MethodId} {args : Array Value} {below : List Frame} {meth : Method} {c : Code} {b : Nat} {D : va_G} {cy : Nat → ClassId} {G : Gm} {v0 : Int32} {S : St} {Q : Int32 → St → Prop} (C : CX p s m args meth c b D cy cX11_isSmall RX11 1 (some .boolean)) (hE : s.heap.size + 0 ≤ b + G.2.2) (h : f_X11_isSmall G v0 Q S) : J p l e rm_X11_isSmall s m args below meth c b D cy 1 (zI b D cy below args s G Q) 0 0 G S 0 [(0, .int v0)] [] := by
  unfold f_X11_isSmall at h
  refine jB C [(.iload_n 0, 1, 0), (.bipush 97, 2, 97)] 3 [(0, .int v0)] [.int 97, .int v0] (by decide +kernel) rfl rfl ?_
  refine jIcmp_lt C 6 16 (by decide +kernel : decode cX11_isSmall 3 = .ok (.if_icmp .lt 13, 3)) rfl rfl (fun c1 => ?_) (fun c1 => ?_)
  · have h := it1 h c1
    refine jB C [(.iconst 0, 1, 0)] 17 [(0, .int v0)] [.int 0] (by decide +kernel) rfl rfl ?_
    exact jRetZ C (by decide +kernel : decode cX11_isSmall 17 = .ok (.ireturn, 1)) (Nat.le_refl _) (Nat.le_refl _) (by decide) ⟨rfl, h⟩
  · have h := it2 h c1
    refine jB C [(.iload_n 0, 1, 0), (.bipush 122, 2, 122)] 9 [(0, .int v0)] [.int 122, .int v0] (by decide +kernel) rfl rfl ?_
    refine jIcmp_gt C 12 16 (by decide +kernel : decode cX11_isSmall 9 = .ok (.if_icmp .gt 7, 3)) rfl rfl (fun c2 => ?_) (fun c2 => ?_)
    · have h := it1 h c2
      refine jB C [(.iconst 0, 1, 0)] 17 [(0, .int v0)] [.int 0] (by decide +kernel) rfl rfl ?_
      exact jRetZ C (by decide +kernel : decode cX11_isSmall 17 = .ok (.ireturn, 1)) (Nat.le_refl _) (Nat.le_refl _) (by decide) ⟨rfl, h⟩
    · have h := it2 h c2
      refine jB C [(.iconst 1, 1, 1)] 13 [(0, .int v0)] [.int 1] (by decide +kernel) rfl rfl ?_
      refine jGoto C 17 (by decide +kernel : decode cX11_isSmall 13 = .ok (.goto 4, 3)) rfl ?_
      exact jRetZ C (by decide +kernel : decode cX11_isSmall 17 = .ok (.ireturn, 1)) (Nat.le_refl _) (Nat.le_refl _) (by decide) ⟨rfl, h⟩
theorem ok_X11_isSmall {G : Gm} {v0 : Int32} {S : St} {Q : Int32 → St → Prop} (h : f_X11_isSmall G v0 Q S) : MT yX11_isSmall cX11_isSmall 1 (some .boolean) rm_X11_isSmall 0 0 (fun b => [.int v0]) G S (QI (fun r G1 S1 => G1 = G ∧ Q r S1)) := MT.ofJ (by decide) (fun b => [(0, .int v0)]) (fun b => rfl) (fun b => Nat.le_of_ble_eq_true rfl) (fun l b D cy p e s m below meth c C hE hn => j_X11_isSmall C hE h)
theorem hd_X11_isSmall : yX11_isSmall.cls ≠ "java/lang/invoke/MethodHandle" ∧ yX11_isSmall.cls ≠ "java/lang/invoke/VarHandle" ∧ (parseMethodDescriptor yX11_isSmall.desc).map (fun d => d.parameters.length) = some 1 := by decide +kernel
def f_X11_isDigit (G : Gm) (v0 : Int32) (Q : Int32 → St → Prop) (S : St) : Prop :=
  (if v0 < 48 then Q 0 S else (if 57 < v0 then Q 0 S else Q 1 S))
abbrev rm_X11_isDigit : Room := { frames := 0, cells := 0, slots := 0, locals := 0 }
set_option maxHeartbeats 4000000 in
set_option maxRecDepth 100000 in
theorem j_X11_isDigit {p : Program} {l : Launch} {e : Env} {s : State} {m : MethodId} {args : Array Value} {below : List Frame} {meth : Method} {c : Code} {b : Nat} {D : va_G} {cy : Nat → ClassId} {G : Gm} {v0 : Int32} {S : St} {Q : Int32 → St → Prop} (C : CX p s m args meth c b D cy cX11_isDigit RX11 1 (some .boolean)) (hE : s.heap.size + 0 ≤ b + G.2.2) (h : f_X11_isDigit G v0 Q S) : J p l e rm_X11_isDigit s m args below meth c b D cy 1 (zI b D cy below args s G Q) 0 0 G S 0 [(0, .int v0)] [] := by
  unfold f_X11_isDigit at h
  refine jB C [(.iload_n 0, 1, 0), (.bipush 48, 2, 48)] 3 [(0, .int v0)] [.int 48, .int v0] (by decide +kernel) rfl rfl ?_
  refine jIcmp_lt C 6 16 (by decide +kernel : decode cX11_isDigit 3 = .ok (.if_icmp .lt 13, 3)) rfl rfl (fun c1 => ?_) (fun c1 => ?_)
  · have h := it1 h c1
    refine jB C [(.iconst 0, 1, 0)] 17 [(0, .int v0)] [.int 0] (by decide +kernel) rfl rfl ?_
    exact jRetZ C (by decide +kernel : decode cX11_isDigit 17 = .ok (.ireturn, 1)) (Nat.le_refl _) (Nat.le_refl _) (by decide) ⟨rfl, h⟩
  · have h := it2 h c1
    refine jB C [(.iload_n 0, 1, 0), (.bipush 57, 2, 57)] 9 [(0, .int v0)] [.int 57, .int v0] (by decide +kernel) rfl rfl ?_
    refine jIcmp_gt C 12 16 (by decide +kernel : decode cX11_isDigit 9 = .ok (.if_icmp .gt 7, 3)) rfl rfl (fun c2 => ?_) (fun c2 => ?_)
    · have h := it1 h c2
      refine jB C [(.iconst 0, 1, 0)] 17 [(0, .int v0)] [.int 0] (by decide +kernel) rfl rfl ?_
      exact jRetZ C (by decide +kernel : decode cX11_isDigit 17 = .ok (.ireturn, 1)) (Nat.le_refl _) (Nat.le_refl _) (by decide) ⟨rfl, h⟩
    · have h := it2 h c2
      refine jB C [(.iconst 1, 1, 1)] 13 [(0, .int v0)] [.int 1] (by decide +kernel) rfl rfl ?_
      refine jGoto C 17 (by decide +kernel : decode cX11_isDigit 13 = .ok (.goto 4, 3)) rfl ?_
      exact jRetZ C (by decide +kernel : decode cX11_isDigit 17 = .ok (.ireturn, 1)) (Nat.le_refl _) (Nat.le_refl _) (by decide) ⟨rfl, h⟩
theorem ok_X11_isDigit {G : Gm} {v0 : Int32} {S : St} {Q : Int32 → St → Prop} (h : f_X11_isDigit G v0 Q S) : MT yX11_isDigit cX11_isDigit 1 (some .boolean) rm_X11_isDigit 0 0 (fun b => [.int v0]) G S (QI (fun r G1 S1 => G1 = G ∧ Q r S1)) := MT.ofJ (by decide) (fun b => [(0, .int v0)]) (fun b => rfl) (fun b => Nat.le_of_ble_eq_true rfl) (fun l b D cy p e s m below meth c C hE hn => j_X11_isDigit C hE h)
theorem hd_X11_isDigit : yX11_isDigit.cls ≠ "java/lang/invoke/MethodHandle" ∧ yX11_isDigit.cls ≠ "java/lang/invoke/VarHandle" ∧ (parseMethodDescriptor yX11_isDigit.desc).map (fun d => d.parameters.length) = some 1 := by decide +kernel
def f_X11_next_319 (G : Gm) (k243 : St → Prop) (v0 : Nat) (u0 : Int64) (u1 : Nat) (Q : St → Prop) (S : St) : Prop :=
  (∀ S1, S1 = uJ S u1 18 u0 → (∀ S2, S2 = uI S1 v0 16 ((S1.1 v0 16) + 1) → k243  S2))
def f_X11_next_243_n (G : Gm) (v0 : Nat) (Q : St → Prop) : Nat → St → Prop
  | 0, _ => False
  | n + 1, S => (if (S.1 v0 17) = 2 then (if (S.1 v0 14) ≤ (S.1 v0 16) then Q S else (∃ a3, S.2.2 v0 13 = some a3 ∧ (vp_in (S.1 v0 16) (G.2.1 a3) ∧ f_X11_isDigit G (S.1 a3 (S.1 v0 16).toNatClampNeg) (fun r6 S5 => (if r6 = 0 then Q S5 else (if (lg_cmp (S5.2.1 v0 18) 1000000) ≤ 0 then (∃ a9, S5.2.2 v0 13 = some a9 ∧ (vp_in (S5.1 v0 16) (G.2.1 a9) ∧ f_X11_next_319 G (f_X11_next_243_n G v0 Q n) v0 ((((S5.2.1 v0 18) * 10) + ((S5.1 a9 (S5.1 v0 16).toNatClampNeg).toInt64)) - 48) v0 Q S5)) else f_X11_next_319 G (f_X11_next_243_n G v0 Q n) v0 (S5.2.1 v0 18) v0 Q S5))) S))) else Q S)
def f_X11_next_243 (G : Gm) (v0 : Nat) (Q : St → Prop) (S : St) : Prop := ∃ n, f_X11_next_243_n G v0 Q n S
def f_X11_next_227 (G : Gm) (k149 : St → Prop) (v0 : Nat) (u0 : Int64) (u1 : Nat) (Q : St → Prop) (S : St) : Prop :=
  (∀ S1, S1 = uJ S u1 18 u0 → (∀ S2, S2 = uI S1 v0 16 ((S1.1 v0 16) + 1) → k149  S2))
def f_X11_next_149_n (G : Gm) (v0 : Nat) (Q : St → Prop) : Nat → St → Prop
  | 0, _ => False
  | n + 1, S => (if (S.1 v0 17) = 1 then (if (S.1 v0 14) ≤ (S.1 v0 16) then f_X11_next_243 G v0 Q S else (∃ a3, S.2.2 v0 13 = some a3 ∧ (vp_in (S.1 v0 16) (G.2.1 a3) ∧ f_X11_isSmall G (S.1 a3 (S.1 v0 16).toNatClampNeg) (fun r6 S5 => (if r6 = 0 then f_X11_next_243 G v0 Q S5 else (if 10 ≤ ((S5.1 v0 16) - (S5.1 v0 15)) then f_X11_next_227 G (f_X11_next_149_n G v0 Q n) v0 (-1) v0 Q S5 else (∃ a9, S5.2.2 v0 13 = some a9 ∧ (vp_in (S5.1 v0 16) (G.2.1 a9) ∧ f_X11_next_227 G (f_X11_next_149_n G v0 Q n) v0 ((((S5.2.1 v0 18) * 32) + ((S5.1 a9 (S5.1 v0 16).toNatClampNeg).toInt64)) - 96) v0 Q S5))))) S))) else f_X11_next_243 G v0 Q S)
def f_X11_next_149 (G : Gm) (v0 : Nat) (Q : St → Prop) (S : St) : Prop := ∃ n, f_X11_next_149_n G v0 Q n S
def f_X11_next_114 (G : Gm) (v0 : Nat) (u0 : Int32) (u1 : Nat) (Q : St → Prop) (S : St) : Prop :=
  (∀ S1, S1 = uI S u1 17 u0 → (if (S1.1 v0 17) = 3 then (∃ a3, S1.2.2 v0 13 = some a3 ∧ (vp_in (S1.1 v0 15) (G.2.1 a3) ∧ (∀ S5, S5 = uJ S1 v0 18 ((S1.1 a3 (S1.1 v0 15).toNatClampNeg).toInt64) → (∀ S6, S6 = uI S5 v0 16 ((S5.1 v0 16) + 1) → f_X11_next_149 G v0 Q S6)))) else f_X11_next_149 G v0 Q S1))
def f_X11_next_46 (G : Gm) (v0 : Nat) (Q : St → Prop) (S : St) : Prop :=
  (∀ S1, S1 = uI S v0 16 (S.1 v0 15) → (∀ S2, S2 = uJ S1 v0 18 0 → (if (S2.1 v0 15) = (S2.1 v0 14) then f_X11_next_114 G v0 0 v0 Q S2 else (∃ a4, S2.2.2 v0 13 = some a4 ∧ (vp_in (S2.1 v0 15) (G.2.1 a4) ∧ f_X11_isSmall G (S2.1 a4 (S2.1 v0 15).toNatClampNeg) (fun r7 S6 => (if r7 = 0 then (∃ a9, S6.2.2 v0 13 = some a9 ∧ (vp_in (S6.1 v0 15) (G.2.1 a9) ∧ f_X11_isDigit G (S6.1 a9 (S6.1 v0 15).toNatClampNeg) (fun r12 S11 => (if r12 = 0 then f_X11_next_114 G v0 3 v0 Q S11 else f_X11_next_114 G v0 2 v0 Q S11)) S6)) else f_X11_next_114 G v0 1 v0 Q S6)) S2)))))
def f_X11_next_8_n (G : Gm) (v0 : Nat) (Q : St → Prop) : Nat → St → Prop
  | 0, _ => False
  | n + 1, S => (if (S.1 v0 14) ≤ (S.1 v0 15) then f_X11_next_46 G v0 Q S else (∃ a2, S.2.2 v0 13 = some a2 ∧ (vp_in (S.1 v0 15) (G.2.1 a2) ∧ (if (S.1 a2 (S.1 v0 15).toNatClampNeg) = 32 then (∀ S5, S5 = uI S v0 15 ((S.1 v0 15) + 1) → (f_X11_next_8_n G v0 Q n)  S5) else f_X11_next_46 G v0 Q S))))
def f_X11_next_8 (G : Gm) (v0 : Nat) (Q : St → Prop) (S : St) : Prop := ∃ n, f_X11_next_8_n G v0 Q n S
def f_X11_next (G : Gm) (v0 : Nat) (Q : St → Prop) (S : St) : Prop :=
  (∀ S1, S1 = uI S v0 15 (S.1 v0 16) → f_X11_next_8 G v0 Q S1)
abbrev rm_X11_next : Room := { frames := 1, cells := 0, slots := 0, locals := 20 }
set_option maxHeartbeats 4000000 in
set_option maxRecDepth 100000 in
theorem j_X11_next_319 {p : Program} {l : Launch} {e : Env} {s : State} {m : MethodId} {args : Array Value} {below : List Frame} {meth : Method} {c : Code} {b : Nat} {D : va_G} {cy : Nat → ClassId} {G : Gm} {k243 : St → Prop} {v0 : Nat} {u0 : Int64} {u1 : Nat} {S : St} {Q : St → Prop} (C : CX p s m args meth c b D cy cX11_next RX11 1 none) (hE : s.heap.size + 0 ≤ b + G.2.2) (t_v0 : ok G 10 v0) (t_u1 : ok G 10 u1) (hk243 : ∀ S, k243 S → J p l e rm_X11_next s m args below meth c b D cy 1 (zV b D cy below args s G Q) 0 0 G S 243 [(0, .ref (b + v0))] []) (h : f_X11_next_319 G k243 v0 u0 u1 Q S) : J p l e rm_X11_next s m args below meth c b D cy 1 (zV b D cy below args s G Q) 0 0 G S 319 [(0, .ref (b + v0))] [.long u0, .ref (b + u1)] := by
  unfold f_X11_next_319 at h
  refine jPutJ C 322 (by decide +kernel : decode cX11_next 319 = .ok (.putfield 281, 3)) rfl hE t_u1 kX11 18 (by decide) rfl rfl (by decide) rfl wd_1172 rfl rfl rfl ?_
  refine jTopS (fun S1 e_S1 => ?_)
  have h := h S1 e_S1
  refine jB C [(.aload_n 0, 1, 0), (.dup, 1, 0)] 324 [(0, .ref (b + v0))] [.ref (b + v0), .ref (b + v0)] (by decide +kernel) rfl rfl ?_
  refine jGetI C 327 (by decide +kernel : decode cX11_next 324 = .ok (.getfield 268, 3)) rfl t_v0 kX11 16 (by decide) rfl rfl (by decide) wd_1170 ?_
  refine jB C [(.iconst 1, 1, 1), (.iadd, 1, 0)] 329 [(0, .ref (b + v0))] [.int ((S1.1 v0 16) + 1), .ref (b + v0)] (by decide +kernel) rfl rfl ?_
  refine jPutI C 332 (by decide +kernel : decode cX11_next 329 = .ok (.putfield 268, 3)) rfl hE t_v0 kX11 16 (by decide) rfl rfl (by decide) rfl wd_1170 rfl rfl rfl ?_
  refine jTopS (fun S2 e_S2 => ?_)
  have h := h S2 e_S2
  refine jGoto C 243 (by decide +kernel : decode cX11_next 332 = .ok (.goto (-89), 3)) rfl ?_
  refine jSub [0] rfl ?_
  exact hk243 S2 h
set_option maxHeartbeats 4000000 in
set_option maxRecDepth 100000 in
theorem j_X11_next_243_n {p : Program} {l : Launch} {e : Env} {s : State} {m : MethodId} {args : Array Value} {below : List Frame} {meth : Method} {c : Code} {b : Nat} {D : va_G} {cy : Nat → ClassId} {G : Gm} {v0 : Nat} {Q : St → Prop} (C : CX p s m args meth c b D cy cX11_next RX11 1 none) (hE : s.heap.size + 0 ≤ b + G.2.2) (t_v0 : ok G 10 v0) : ∀ n S, f_X11_next_243_n G v0 Q n S → J p l e rm_X11_next s m args below meth c b D cy 1 (zV b D cy below args s G Q) 0 0 G S 243 [(0, .ref (b + v0))] [] := by
  intro n
  induction n with
  | zero => intro S h; exact h.elim
  | succ n ih =>
    intro S h
    unfold f_X11_next_243_n at h
    refine jB C [(.aload_n 0, 1, 0)] 244 [(0, .ref (b + v0))] [.ref (b + v0)] (by decide +kernel) rfl rfl ?_
    refine jGetI C 247 (by decide +kernel : decode cX11_next 244 = .ok (.getfield 291, 3)) rfl t_v0 kX11 17 (by decide) rfl rfl (by decide) wd_1171 ?_
    refine jB C [(.iconst 2, 1, 2)] 248 [(0, .ref (b + v0))] [.int 2, .int (S.1 v0 17)] (by decide +kernel) rfl rfl ?_
    refine jIcmp_ne C 251 335 (by decide +kernel : decode cX11_next 248 = .ok (.if_icmp .ne 87, 3)) rfl rfl (fun c1 => ?_) (fun c1 => ?_)
    · have h := it2 h c1
      exact jRetV C (by decide +kernel : decode cX11_next 335 = .ok (.return_, 1)) (Nat.le_refl _) (Nat.le_refl _) ⟨rfl, h⟩
    · have h := it1 h c1
      refine jB C [(.aload_n 0, 1, 0)] 252 [(0, .ref (b + v0))] [.ref (b + v0)] (by decide +kernel) rfl rfl ?_
      refine jGetI C 255 (by decide +kernel : decode cX11_next 252 = .ok (.getfield 268, 3)) rfl t_v0 kX11 16 (by decide) rfl rfl (by decide) wd_1170 ?_
      refine jB C [(.aload_n 0, 1, 0)] 256 [(0, .ref (b + v0))] [.ref (b + v0), .int (S.1 v0 16)] (by decide +kernel) rfl rfl ?_
      refine jGetI C 259 (by decide +kernel : decode cX11_next 256 = .ok (.getfield 259, 3)) rfl t_v0 kX11 14 (by decide) rfl rfl (by decide) wd_1168 ?_
      refine jIcmp_ge C 262 335 (by decide +kernel : decode cX11_next 259 = .ok (.if_icmp .ge 76, 3)) rfl rfl (fun c2 => ?_) (fun c2 => ?_)
      · have h := it1 h c2
        exact jRetV C (by decide +kernel : decode cX11_next 335 = .ok (.return_, 1)) (Nat.le_refl _) (Nat.le_refl _) ⟨rfl, h⟩
      · have h := it2 h c2
        refine jB C [(.aload_n 0, 1, 0)] 263 [(0, .ref (b + v0))] [.ref (b + v0)] (by decide +kernel) rfl rfl ?_
        obtain ⟨a3, e_a3, h⟩ := h
        refine jGetR C 266 (by decide +kernel : decode cX11_next 263 = .ok (.getfield 38, 3)) rfl t_v0 kX11 13 (by decide) rfl rfl (by decide) wd_1167 e_a3 rfl (fun t_a3 => ?_)
        refine jB C [(.aload_n 0, 1, 0)] 267 [(0, .ref (b + v0))] [.ref (b + v0), .ref (b + a3)] (by decide +kernel) rfl rfl ?_
        refine jGetI C 270 (by decide +kernel : decode cX11_next 267 = .ok (.getfield 268, 3)) rfl t_v0 kX11 16 (by decide) rfl rfl (by decide) wd_1170 ?_
        obtain ⟨y4, h⟩ := h
        refine jIald C 271 (by decide +kernel : decode cX11_next 270 = .ok (.iaload, 1)) rfl t_a3 y4 ?_
        refine jcS_I C 274 (rest := []) (ok_X11_isDigit h) (by decide +kernel : decode cX11_next 271 = .ok (.invokestatic 288, 3)) rfl wd_1531 wd_1532 wd_12 wd_1533 ⟨rfl, rfl⟩ hd_X11_isDigit ⟨Nat.le_of_ble_eq_true rfl, Nat.le_of_ble_eq_true rfl⟩ rfl rfl (Nat.le_of_ble_eq_true rfl) ⟨Nat.zero_le _, Nat.zero_le _⟩ (fun r6 S5 h => ?_)
        refine jIf_eq C 277 335 (by decide +kernel : decode cX11_next 274 = .ok (.ifCond .eq 61, 3)) rfl rfl (fun c7 => ?_) (fun c7 => ?_)
        · have h := it1 h c7
          exact jRetV C (by decide +kernel : decode cX11_next 335 = .ok (.return_, 1)) (Nat.le_refl _) (Nat.le_refl _) ⟨rfl, h⟩
        · have h := it2 h c7
          refine jB C [(.aload_n 0, 1, 0), (.aload_n 0, 1, 0)] 279 [(0, .ref (b + v0))] [.ref (b + v0), .ref (b + v0)] (by decide +kernel) rfl rfl ?_
          refine jGetJ C 282 (by decide +kernel : decode cX11_next 279 = .ok (.getfield 281, 3)) rfl t_v0 kX11 18 (by decide) rfl rfl (by decide) wd_1172 ?_
          refine jLdc2 C 285 (by decide +kernel : decode cX11_next 282 = .ok (.ldc2_w 300, 3)) rfl wd_1536 ?_
          refine jB C [(.lcmp, 1, 0)] 286 [(0, .ref (b + v0))] [.int (lg_cmp (S5.2.1 v0 18) 1000000), .ref (b + v0)] (by decide +kernel) rfl rfl ?_
          refine jIf_le C 289 296 (by decide +kernel : decode cX11_next 286 = .ok (.ifCond .le 10, 3)) rfl rfl (fun c8 => ?_) (fun c8 => ?_)
          · have h := it1 h c8
            refine jB C [(.aload_n 0, 1, 0)] 297 [(0, .ref (b + v0))] [.ref (b + v0), .ref (b + v0)] (by decide +kernel) rfl rfl ?_
            refine jGetJ C 300 (by decide +kernel : decode cX11_next 297 = .ok (.getfield 281, 3)) rfl t_v0 kX11 18 (by decide) rfl rfl (by decide) wd_1172 ?_
            refine jLdc2 C 303 (by decide +kernel : decode cX11_next 300 = .ok (.ldc2_w 252, 3)) rfl wd_1486 ?_
            refine jB C [(.lmul, 1, 0), (.aload_n 0, 1, 0)] 305 [(0, .ref (b + v0))] [.ref (b + v0), .long ((S5.2.1 v0 18) * 10), .ref (b + v0)] (by decide +kernel) rfl rfl ?_
            obtain ⟨a9, e_a9, h⟩ := h
            refine jGetR C 308 (by decide +kernel : decode cX11_next 305 = .ok (.getfield 38, 3)) rfl t_v0 kX11 13 (by decide) rfl rfl (by decide) wd_1167 e_a9 rfl (fun t_a9 => ?_)
            refine jB C [(.aload_n 0, 1, 0)] 309 [(0, .ref (b + v0))] [.ref (b + v0), .ref (b + a9), .long ((S5.2.1 v0 18) * 10), .ref (b + v0)] (by decide +kernel) rfl rfl ?_
            refine jGetI C 312 (by decide +kernel : decode cX11_next 309 = .ok (.getfield 268, 3)) rfl t_v0 kX11 16 (by decide) rfl rfl (by decide) wd_1170 ?_
            obtain ⟨y10, h⟩ := h
            refine jIald C 313 (by decide +kernel : decode cX11_next 312 = .ok (.iaload, 1)) rfl t_a9 y10 ?_
            refine jB C [(.i2l, 1, 0), (.ladd, 1, 0)] 315 [(0, .ref (b + v0))] [.long (((S5.2.1 v0 18) * 10) + ((S5.1 a9 (S5.1 v0 16).toNatClampNeg).toInt64)), .ref (b + v0)] (by decide +kernel) rfl rfl ?_
            refine jLdc2 C 318 (by decide +kernel : decode cX11_next 315 = .ok (.ldc2_w 302, 3)) rfl wd_1537 ?_
            refine jB C [(.lsub, 1, 0)] 319 [(0, .ref (b + v0))] [.long ((((S5.2.1 v0 18) * 10) + ((S5.1 a9 (S5.1 v0 16).toNatClampNeg).toInt64)) - 48), .ref (b + v0)] (by decide +kernel) rfl rfl ?_
            refine jSub [0] rfl ?_
            exact j_X11_next_319 C hE t_v0 t_v0 ih h
          · have h := it2 h c8
            refine jB C [(.aload_n 0, 1, 0)] 290 [(0, .ref (b + v0))] [.ref (b + v0), .ref (b + v0)] (by decide +kernel) rfl rfl ?_
            refine jGetJ C 293 (by decide +kernel : decode cX11_next 290 = .ok (.getfield 281, 3)) rfl t_v0 kX11 18 (by decide) rfl rfl (by decide) wd_1172 ?_
            refine jGoto C 319 (by decide +kernel : decode cX11_next 293 = .ok (.goto 26, 3)) rfl ?_
            refine jSub [0] rfl ?_
            exact j_X11_next_319 C hE t_v0 t_v0 ih h
theorem j_X11_next_243 {p : Program} {l : Launch} {e : Env} {s : State} {m : MethodId} {args : Array Value} {below : List Frame} {meth : Method} {c : Code} {b : Nat} {D : va_G} {cy : Nat → ClassId} {G : Gm} {v0 : Nat} {S : St} {Q : St → Prop} (C : CX p s m args meth c b D cy cX11_next RX11 1 none) (hE : s.heap.size + 0 ≤ b + G.2.2) (t_v0 : ok G 10 v0) (h : f_X11_next_243 G v0 Q S) : J p l e rm_X11_next s m args below meth c b D cy 1 (zV b D cy below args s G Q) 0 0 G S 243 [(0, .ref (b + v0))] [] := by
  obtain ⟨n, h⟩ := h
  exact j_X11_next_243_n C hE t_v0 n S h
set_option maxHeartbeats 4000000 in
set_option maxRecDepth 100000 in
theorem j_X11_next_227 {p : Program} {l : Launch} {e : Env} {s : State} {m : MethodId} {args : Array Value} {below : List Frame} {meth : Method} {c : Code} {b : Nat} {D : va_G} {cy : Nat → ClassId} {G : Gm} {k149 : St → Prop} {v0 : Nat} {u0 : Int64} {u1 : Nat} {S : St} {Q : St → Prop} (C : CX p s m args meth c b D cy cX11_next RX11 1 none) (hE : s.heap.size + 0 ≤ b + G.2.2) (t_v0 : ok G 10 v0) (t_u1 : ok G 10 u1) (hk149 : ∀ S, k149 S → J p l e rm_X11_next s m args below meth c b D cy 1 (zV b D cy below args s G Q) 0 0 G S 149 [(0, .ref (b + v0))] []) (h : f_X11_next_227 G k149 v0 u0 u1 Q S) : J p l e rm_X11_next s m args below meth c b D cy 1 (zV b D cy below args s G Q) 0 0 G S 227 [(0, .ref (b + v0))] [.long u0, .ref (b + u1)] := by
  unfold f_X11_next_227 at h
  refine jPutJ C 230 (by decide +kernel : decode cX11_next 227 = .ok (.putfield 281, 3)) rfl hE t_u1 kX11 18 (by decide) rfl rfl (by decide) rfl wd_1172 rfl rfl rfl ?_
  refine jTopS (fun S1 e_S1 => ?_)
  have h := h S1 e_S1
  refine jB C [(.aload_n 0, 1, 0), (.dup, 1, 0)] 232 [(0, .ref (b + v0))] [.ref (b + v0), .ref (b + v0)] (by decide +kernel) rfl rfl ?_
  refine jGetI C 235 (by decide +kernel : decode cX11_next 232 = .ok (.getfield 268, 3)) rfl t_v0 kX11 16 (by decide) rfl rfl (by decide) wd_1170 ?_
  refine jB C [(.iconst 1, 1, 1), (.iadd, 1, 0)] 237 [(0, .ref (b + v0))] [.int ((S1.1 v0 16) + 1), .ref (b + v0)] (by decide +kernel) rfl rfl ?_
  refine jPutI C 240 (by decide +kernel : decode cX11_next 237 = .ok (.putfield 268, 3)) rfl hE t_v0 kX11 16 (by decide) rfl rfl (by decide) rfl wd_1170 rfl rfl rfl ?_
  refine jTopS (fun S2 e_S2 => ?_)
  have h := h S2 e_S2
  refine jGoto C 149 (by decide +kernel : decode cX11_next 240 = .ok (.goto (-91), 3)) rfl ?_
  refine jSub [0] rfl ?_
  exact hk149 S2 h
set_option maxHeartbeats 4000000 in
set_option maxRecDepth 100000 in
theorem j_X11_next_149_n {p : Program} {l : Launch} {e : Env} {s : State} {m : MethodId} {args : Array Value} {below : List Frame} {meth : Method} {c : Code} {b : Nat} {D : va_G} {cy : Nat → ClassId} {G : Gm} {v0 : Nat} {Q : St → Prop} (C : CX p s m args meth c b D cy cX11_next RX11 1 none) (hE : s.heap.size + 0 ≤ b + G.2.2) (t_v0 : ok G 10 v0) : ∀ n S, f_X11_next_149_n G v0 Q n S → J p l e rm_X11_next s m args below meth c b D cy 1 (zV b D cy below args s G Q) 0 0 G S 149 [(0, .ref (b + v0))] [] := by
  intro n
  induction n with
  | zero => intro S h; exact h.elim
  | succ n ih =>
    intro S h
    unfold f_X11_next_149_n at h
    refine jB C [(.aload_n 0, 1, 0)] 150 [(0, .ref (b + v0))] [.ref (b + v0)] (by decide +kernel) rfl rfl ?_
    refine jGetI C 153 (by decide +kernel : decode cX11_next 150 = .ok (.getfield 291, 3)) rfl t_v0 kX11 17 (by decide) rfl rfl (by decide) wd_1171 ?_
    refine jB C [(.iconst 1, 1, 1)] 154 [(0, .ref (b + v0))] [.int 1, .int (S.1 v0 17)] (by decide +kernel) rfl rfl ?_
    refine jIcmp_ne C 157 243 (by decide +kernel : decode cX11_next 154 = .ok (.if_icmp .ne 89, 3)) rfl rfl (fun c1 => ?_) (fun c1 => ?_)
    · have h := it2 h c1
      refine jSub [0] rfl ?_
      exact j_X11_next_243 C hE t_v0 h
    · have h := it1 h c1
      refine jB C [(.aload_n 0, 1, 0)] 158 [(0, .ref (b + v0))] [.ref (b + v0)] (by decide +kernel) rfl rfl ?_
      refine jGetI C 161 (by decide +kernel : decode cX11_next 158 = .ok (.getfield 268, 3)) rfl t_v0 kX11 16 (by decide) rfl rfl (by decide) wd_1170 ?_
      refine jB C [(.aload_n 0, 1, 0)] 162 [(0, .ref (b + v0))] [.ref (b + v0), .int (S.1 v0 16)] (by decide +kernel) rfl rfl ?_
      refine jGetI C 165 (by decide +kernel : decode cX11_next 162 = .ok (.getfield 259, 3)) rfl t_v0 kX11 14 (by decide) rfl rfl (by decide) wd_1168 ?_
      refine jIcmp_ge C 168 243 (by decide +kernel : decode cX11_next 165 = .ok (.if_icmp .ge 78, 3)) rfl rfl (fun c2 => ?_) (fun c2 => ?_)
      · have h := it1 h c2
        refine jSub [0] rfl ?_
        exact j_X11_next_243 C hE t_v0 h
      · have h := it2 h c2
        refine jB C [(.aload_n 0, 1, 0)] 169 [(0, .ref (b + v0))] [.ref (b + v0)] (by decide +kernel) rfl rfl ?_
        obtain ⟨a3, e_a3, h⟩ := h
        refine jGetR C 172 (by decide +kernel : decode cX11_next 169 = .ok (.getfield 38, 3)) rfl t_v0 kX11 13 (by decide) rfl rfl (by decide) wd_1167 e_a3 rfl (fun t_a3 => ?_)
        refine jB C [(.aload_n 0, 1, 0)] 173 [(0, .ref (b + v0))] [.ref (b + v0), .ref (b + a3)] (by decide +kernel) rfl rfl ?_
        refine jGetI C 176 (by decide +kernel : decode cX11_next 173 = .ok (.getfield 268, 3)) rfl t_v0 kX11 16 (by decide) rfl rfl (by decide) wd_1170 ?_
        obtain ⟨y4, h⟩ := h
        refine jIald C 177 (by decide +kernel : decode cX11_next 176 = .ok (.iaload, 1)) rfl t_a3 y4 ?_
        refine jcS_I C 180 (rest := []) (ok_X11_isSmall h) (by decide +kernel : decode cX11_next 177 = .ok (.invokestatic 285, 3)) rfl wd_1528 wd_1529 wd_12 wd_1530 ⟨rfl, rfl⟩ hd_X11_isSmall ⟨Nat.le_of_ble_eq_true rfl, Nat.le_of_ble_eq_true rfl⟩ rfl rfl (Nat.le_of_ble_eq_true rfl) ⟨Nat.zero_le _, Nat.zero_le _⟩ (fun r6 S5 h => ?_)
        refine jIf_eq C 183 243 (by decide +kernel : decode cX11_next 180 = .ok (.ifCond .eq 63, 3)) rfl rfl (fun c7 => ?_) (fun c7 => ?_)
        · have h := it1 h c7
          refine jSub [0] rfl ?_
          exact j_X11_next_243 C hE t_v0 h
        · have h := it2 h c7
          refine jB C [(.aload_n 0, 1, 0), (.aload_n 0, 1, 0)] 185 [(0, .ref (b + v0))] [.ref (b + v0), .ref (b + v0)] (by decide +kernel) rfl rfl ?_
          refine jGetI C 188 (by decide +kernel : decode cX11_next 185 = .ok (.getfield 268, 3)) rfl t_v0 kX11 16 (by decide) rfl rfl (by decide) wd_1170 ?_
          refine jB C [(.aload_n 0, 1, 0)] 189 [(0, .ref (b + v0))] [.ref (b + v0), .int (S5.1 v0 16), .ref (b + v0)] (by decide +kernel) rfl rfl ?_
          refine jGetI C 192 (by decide +kernel : decode cX11_next 189 = .ok (.getfield 278, 3)) rfl t_v0 kX11 15 (by decide) rfl rfl (by decide) wd_1169 ?_
          refine jB C [(.isub, 1, 0), (.bipush 10, 2, 10)] 195 [(0, .ref (b + v0))] [.int 10, .int ((S5.1 v0 16) - (S5.1 v0 15)), .ref (b + v0)] (by decide +kernel) rfl rfl ?_
          refine jIcmp_ge C 198 224 (by decide +kernel : decode cX11_next 195 = .ok (.if_icmp .ge 29, 3)) rfl rfl (fun c8 => ?_) (fun c8 => ?_)
          · have h := it1 h c8
            refine jLdc2 C 227 (by decide +kernel : decode cX11_next 224 = .ok (.ldc2_w 298, 3)) rfl wd_1405 ?_
            refine jSub [0] rfl ?_
            exact j_X11_next_227 C hE t_v0 t_v0 ih h
          · have h := it2 h c8
            refine jB C [(.aload_n 0, 1, 0)] 199 [(0, .ref (b + v0))] [.ref (b + v0), .ref (b + v0)] (by decide +kernel) rfl rfl ?_
            refine jGetJ C 202 (by decide +kernel : decode cX11_next 199 = .ok (.getfield 281, 3)) rfl t_v0 kX11 18 (by decide) rfl rfl (by decide) wd_1172 ?_
            refine jLdc2 C 205 (by decide +kernel : decode cX11_next 202 = .ok (.ldc2_w 294, 3)) rfl wd_1534 ?_
            refine jB C [(.lmul, 1, 0), (.aload_n 0, 1, 0)] 207 [(0, .ref (b + v0))] [.ref (b + v0), .long ((S5.2.1 v0 18) * 32), .ref (b + v0)] (by decide +kernel) rfl rfl ?_
            obtain ⟨a9, e_a9, h⟩ := h
            refine jGetR C 210 (by decide +kernel : decode cX11_next 207 = .ok (.getfield 38, 3)) rfl t_v0 kX11 13 (by decide) rfl rfl (by decide) wd_1167 e_a9 rfl (fun t_a9 => ?_)
            refine jB C [(.aload_n 0, 1, 0)] 211 [(0, .ref (b + v0))] [.ref (b + v0), .ref (b + a9), .long ((S5.2.1 v0 18) * 32), .ref (b + v0)] (by decide +kernel) rfl rfl ?_
            refine jGetI C 214 (by decide +kernel : decode cX11_next 211 = .ok (.getfield 268, 3)) rfl t_v0 kX11 16 (by decide) rfl rfl (by decide) wd_1170 ?_
            obtain ⟨y10, h⟩ := h
            refine jIald C 215 (by decide +kernel : decode cX11_next 214 = .ok (.iaload, 1)) rfl t_a9 y10 ?_
            refine jB C [(.i2l, 1, 0), (.ladd, 1, 0)] 217 [(0, .ref (b + v0))] [.long (((S5.2.1 v0 18) * 32) + ((S5.1 a9 (S5.1 v0 16).toNatClampNeg).toInt64)), .ref (b + v0)] (by decide +kernel) rfl rfl ?_
            refine jLdc2 C 220 (by decide +kernel : decode cX11_next 217 = .ok (.ldc2_w 296, 3)) rfl wd_1535 ?_
            refine jB C [(.lsub, 1, 0)] 221 [(0, .ref (b + v0))] [.long ((((S5.2.1 v0 18) * 32) + ((S5.1 a9 (S5.1 v0 16).toNatClampNeg).toInt64)) - 96), .ref (b + v0)] (by decide +kernel) rfl rfl ?_
            refine jGoto C 227 (by decide +kernel : decode cX11_next 221 = .ok (.goto 6, 3)) rfl ?_
            refine jSub [0] rfl ?_
            exact j_X11_next_227 C hE t_v0 t_v0 ih h
theorem j_X11_next_149 {p : Program} {l : Launch} {e : Env} {s : State} {m : MethodId} {args : Array Value} {below : List Frame} {meth : Method} {c : Code} {b : Nat} {D : va_G} {cy : Nat → ClassId} {G : Gm} {v0 : Nat} {S : St} {Q : St → Prop} (C : CX p s m args meth c b D cy cX11_next RX11 1 none) (hE : s.heap.size + 0 ≤ b + G.2.2) (t_v0 : ok G 10 v0) (h : f_X11_next_149 G v0 Q S) : J p l e rm_X11_next s m args below meth c b D cy 1 (zV b D cy below args s G Q) 0 0 G S 149 [(0, .ref (b + v0))] [] := by
  obtain ⟨n, h⟩ := h
  exact j_X11_next_149_n C hE t_v0 n S h
set_option maxHeartbeats 4000000 in
set_option maxRecDepth 100000 in
theorem j_X11_next_114 {p : Program} {l : Launch} {e : Env} {s : State} {m : MethodId} {args : Array Value} {below : List Frame} {meth : Method} {c : Code} {b : Nat} {D : va_G} {cy : Nat → ClassId} {G : Gm} {v0 : Nat} {u0 : Int32} {u1 : Nat} {S : St} {Q : St → Prop} (C : CX p s m args meth c b D cy cX11_next RX11 1 none) (hE : s.heap.size + 0 ≤ b + G.2.2) (t_v0 : ok G 10 v0) (t_u1 : ok G 10 u1) (h : f_X11_next_114 G v0 u0 u1 Q S) : J p l e rm_X11_next s m args below meth c b D cy 1 (zV b D cy below args s G Q) 0 0 G S 114 [(0, .ref (b + v0))] [.int u0, .ref (b + u1)] := by
  unfold f_X11_next_114 at h
  refine jPutI C 117 (by decide +kernel : decode cX11_next 114 = .ok (.putfield 291, 3)) rfl hE t_u1 kX11 17 (by decide) rfl rfl (by decide) rfl wd_1171 rfl rfl rfl ?_
  refine jTopS (fun S1 e_S1 => ?_)
  have h := h S1 e_S1
  refine jB C [(.aload_n 0, 1, 0)] 118 [(0, .ref (b + v0))] [.ref (b + v0)] (by decide +kernel) rfl rfl ?_
  refine jGetI C 121 (by decide +kernel : decode cX11_next 118 = .ok (.getfield 291, 3)) rfl t_v0 kX11 17 (by decide) rfl rfl (by decide) wd_1171 ?_
  refine jB C [(.iconst 3, 1, 3)] 122 [(0, .ref (b + v0))] [.int 3, .int (S1.1 v0 17)] (by decide +kernel) rfl rfl ?_
  refine jIcmp_ne C 125 149 (by decide +kernel : decode cX11_next 122 = .ok (.if_icmp .ne 27, 3)) rfl rfl (fun c2 => ?_) (fun c2 => ?_)
  · have h := it2 h c2
    refine jSub [0] rfl ?_
    exact j_X11_next_149 C hE t_v0 h
  · have h := it1 h c2
    refine jB C [(.aload_n 0, 1, 0), (.aload_n 0, 1, 0)] 127 [(0, .ref (b + v0))] [.ref (b + v0), .ref (b + v0)] (by decide +kernel) rfl rfl ?_
    obtain ⟨a3, e_a3, h⟩ := h
    refine jGetR C 130 (by decide +kernel : decode cX11_next 127 = .ok (.getfield 38, 3)) rfl t_v0 kX11 13 (by decide) rfl rfl (by decide) wd_1167 e_a3 rfl (fun t_a3 => ?_)
    refine jB C [(.aload_n 0, 1, 0)] 131 [(0, .ref (b + v0))] [.ref (b + v0), .ref (b + a3), .ref (b + v0)] (by decide +kernel) rfl rfl ?_
    refine jGetI C 134 (by decide +kernel : decode cX11_next 131 = .ok (.getfield 278, 3)) rfl t_v0 kX11 15 (by decide) rfl rfl (by decide) wd_1169 ?_
    obtain ⟨y4, h⟩ := h
    refine jIald C 135 (by decide +kernel : decode cX11_next 134 = .ok (.iaload, 1)) rfl t_a3 y4 ?_
    refine jB C [(.i2l, 1, 0)] 136 [(0, .ref (b + v0))] [.long ((S1.1 a3 (S1.1 v0 15).toNatClampNeg).toInt64), .ref (b + v0)] (by decide +kernel) rfl rfl ?_
    refine jPutJ C 139 (by decide +kernel : decode cX11_next 136 = .ok (.putfield 281, 3)) rfl hE t_v0 kX11 18 (by decide) rfl rfl (by decide) rfl wd_1172 rfl rfl rfl ?_
    refine jTopS (fun S5 e_S5 => ?_)
    have h := h S5 e_S5
    refine jB C [(.aload_n 0, 1, 0), (.dup, 1, 0)] 141 [(0, .ref (b + v0))] [.ref (b + v0), .ref (b + v0)] (by decide +kernel) rfl rfl ?_
    refine jGetI C 144 (by decide +kernel : decode cX11_next 141 = .ok (.getfield 268, 3)) rfl t_v0 kX11 16 (by decide) rfl rfl (by decide) wd_1170 ?_
    refine jB C [(.iconst 1, 1, 1), (.iadd, 1, 0)] 146 [(0, .ref (b + v0))] [.int ((S5.1 v0 16) + 1), .ref (b + v0)] (by decide +kernel) rfl rfl ?_
    refine jPutI C 149 (by decide +kernel : decode cX11_next 146 = .ok (.putfield 268, 3)) rfl hE t_v0 kX11 16 (by decide) rfl rfl (by decide) rfl wd_1170 rfl rfl rfl ?_
    refine jTopS (fun S6 e_S6 => ?_)
    have h := h S6 e_S6
    refine jSub [0] rfl ?_
    exact j_X11_next_149 C hE t_v0 h
set_option maxHeartbeats 4000000 in
set_option maxRecDepth 100000 in
theorem j_X11_next_46 {p : Program} {l : Launch} {e : Env} {s : State} {m : MethodId} {args : Array Value} {below : List Frame} {meth : Method} {c : Code} {b : Nat} {D : va_G} {cy : Nat → ClassId} {G : Gm} {v0 : Nat} {S : St} {Q : St → Prop} (C : CX p s m args meth c b D cy cX11_next RX11 1 none) (hE : s.heap.size + 0 ≤ b + G.2.2) (t_v0 : ok G 10 v0) (h : f_X11_next_46 G v0 Q S) : J p l e rm_X11_next s m args below meth c b D cy 1 (zV b D cy below args s G Q) 0 0 G S 46 [(0, .ref (b + v0))] [] := by
  unfold f_X11_next_46 at h
  refine jB C [(.aload_n 0, 1, 0), (.aload_n 0, 1, 0)] 48 [(0, .ref (b + v0))] [.ref (b + v0), .ref (b + v0)] (by decide +kernel) rfl rfl ?_
  refine jGetI C 51 (by decide +kernel : decode cX11_next 48 = .ok (.getfield 278, 3)) rfl t_v0 kX11 15 (by decide) rfl rfl (by decide) wd_1169 ?_
  refine jPutI C 54 (by decide +kernel : decode cX11_next 51 = .ok (.putfield 268, 3)) rfl hE t_v0 kX11 16 (by decide) rfl rfl (by decide) rfl wd_1170 rfl rfl rfl ?_
  refine jTopS (fun S1 e_S1 => ?_)
  have h := h S1 e_S1
  refine jB C [(.aload_n 0, 1, 0), (.lconst 0, 1, 0)] 56 [(0, .ref (b + v0))] [.long 0, .ref (b + v0)] (by decide +kernel) rfl rfl ?_
  refine jPutJ C 59 (by decide +kernel : decode cX11_next 56 = .ok (.putfield 281, 3)) rfl hE t_v0 kX11 18 (by decide) rfl rfl (by decide) rfl wd_1172 rfl rfl rfl ?_
  refine jTopS (fun S2 e_S2 => ?_)
  have h := h S2 e_S2
  refine jB C [(.aload_n 0, 1, 0), (.aload_n 0, 1, 0)] 61 [(0, .ref (b + v0))] [.ref (b + v0), .ref (b + v0)] (by decide +kernel) rfl rfl ?_
  refine jGetI C 64 (by decide +kernel : decode cX11_next 61 = .ok (.getfield 278, 3)) rfl t_v0 kX11 15 (by decide) rfl rfl (by decide) wd_1169 ?_
  refine jB C [(.aload_n 0, 1, 0)] 65 [(0, .ref (b + v0))] [.ref (b + v0), .int (S2.1 v0 15), .ref (b + v0)] (by decide +kernel) rfl rfl ?_
  refine jGetI C 68 (by decide +kernel : decode cX11_next 65 = .ok (.getfield 259, 3)) rfl t_v0 kX11 14 (by decide) rfl rfl (by decide) wd_1168 ?_
  refine jIcmp_ne C 71 75 (by decide +kernel : decode cX11_next 68 = .ok (.if_icmp .ne 7, 3)) rfl rfl (fun c3 => ?_) (fun c3 => ?_)
  · have h := it2 h c3
    refine jB C [(.aload_n 0, 1, 0)] 76 [(0, .ref (b + v0))] [.ref (b + v0), .ref (b + v0)] (by decide +kernel) rfl rfl ?_
    obtain ⟨a4, e_a4, h⟩ := h
    refine jGetR C 79 (by decide +kernel : decode cX11_next 76 = .ok (.getfield 38, 3)) rfl t_v0 kX11 13 (by decide) rfl rfl (by decide) wd_1167 e_a4 rfl (fun t_a4 => ?_)
    refine jB C [(.aload_n 0, 1, 0)] 80 [(0, .ref (b + v0))] [.ref (b + v0), .ref (b + a4), .ref (b + v0)] (by decide +kernel) rfl rfl ?_
    refine jGetI C 83 (by decide +kernel : decode cX11_next 80 = .ok (.getfield 278, 3)) rfl t_v0 kX11 15 (by decide) rfl rfl (by decide) wd_1169 ?_
    obtain ⟨y5, h⟩ := h
    refine jIald C 84 (by decide +kernel : decode cX11_next 83 = .ok (.iaload, 1)) rfl t_a4 y5 ?_
    refine jcS_I C 87 (rest := [.ref (b + v0)]) (ok_X11_isSmall h) (by decide +kernel : decode cX11_next 84 = .ok (.invokestatic 285, 3)) rfl wd_1528 wd_1529 wd_12 wd_1530 ⟨rfl, rfl⟩ hd_X11_isSmall ⟨Nat.le_of_ble_eq_true rfl, Nat.le_of_ble_eq_true rfl⟩ rfl rfl (Nat.le_of_ble_eq_true rfl) ⟨Nat.zero_le _, Nat.zero_le _⟩ (fun r7 S6 h => ?_)
    refine jIf_eq C 90 94 (by decide +kernel : decode cX11_next 87 = .ok (.ifCond .eq 7, 3)) rfl rfl (fun c8 => ?_) (fun c8 => ?_)
    · have h := it1 h c8
      refine jB C [(.aload_n 0, 1, 0)] 95 [(0, .ref (b + v0))] [.ref (b + v0), .ref (b + v0)] (by decide +kernel) rfl rfl ?_
      obtain ⟨a9, e_a9, h⟩ := h
      refine jGetR C 98 (by decide +kernel : decode cX11_next 95 = .ok (.getfield 38, 3)) rfl t_v0 kX11 13 (by decide) rfl rfl (by decide) wd_1167 e_a9 rfl (fun t_a9 => ?_)
      refine jB C [(.aload_n 0, 1, 0)] 99 [(0, .ref (b + v0))] [.ref (b + v0), .ref (b + a9), .ref (b + v0)] (by decide +kernel) rfl rfl ?_
      refine jGetI C 102 (by decide +kernel : decode cX11_next 99 = .ok (.getfield 278, 3)) rfl t_v0 kX11 15 (by decide) rfl rfl (by decide) wd_1169 ?_
      obtain ⟨y10, h⟩ := h
      refine jIald C 103 (by decide +kernel : decode cX11_next 102 = .ok (.iaload, 1)) rfl t_a9 y10 ?_
      refine jcS_I C 106 (rest := [.ref (b + v0)]) (ok_X11_isDigit h) (by decide +kernel : decode cX11_next 103 = .ok (.invokestatic 288, 3)) rfl wd_1531 wd_1532 wd_12 wd_1533 ⟨rfl, rfl⟩ hd_X11_isDigit ⟨Nat.le_of_ble_eq_true rfl, Nat.le_of_ble_eq_true rfl⟩ rfl rfl (Nat.le_of_ble_eq_true rfl) ⟨Nat.zero_le _, Nat.zero_le _⟩ (fun r12 S11 h => ?_)
      refine jIf_eq C 109 113 (by decide +kernel : decode cX11_next 106 = .ok (.ifCond .eq 7, 3)) rfl rfl (fun c13 => ?_) (fun c13 => ?_)
      · have h := it1 h c13
        refine jB C [(.iconst 3, 1, 3)] 114 [(0, .ref (b + v0))] [.int 3, .ref (b + v0)] (by decide +kernel) rfl rfl ?_
        refine jSub [0] rfl ?_
        exact j_X11_next_114 C hE t_v0 t_v0 h
      · have h := it2 h c13
        refine jB C [(.iconst 2, 1, 2)] 110 [(0, .ref (b + v0))] [.int 2, .ref (b + v0)] (by decide +kernel) rfl rfl ?_
        refine jGoto C 114 (by decide +kernel : decode cX11_next 110 = .ok (.goto 4, 3)) rfl ?_
        refine jSub [0] rfl ?_
        exact j_X11_next_114 C hE t_v0 t_v0 h
    · have h := it2 h c8
      refine jB C [(.iconst 1, 1, 1)] 91 [(0, .ref (b + v0))] [.int 1, .ref (b + v0)] (by decide +kernel) rfl rfl ?_
      refine jGoto C 114 (by decide +kernel : decode cX11_next 91 = .ok (.goto 23, 3)) rfl ?_
      refine jSub [0] rfl ?_
      exact j_X11_next_114 C hE t_v0 t_v0 h
  · have h := it1 h c3
    refine jB C [(.iconst 0, 1, 0)] 72 [(0, .ref (b + v0))] [.int 0, .ref (b + v0)] (by decide +kernel) rfl rfl ?_
    refine jGoto C 114 (by decide +kernel : decode cX11_next 72 = .ok (.goto 42, 3)) rfl ?_
    refine jSub [0] rfl ?_
    exact j_X11_next_114 C hE t_v0 t_v0 h
set_option maxHeartbeats 4000000 in
set_option maxRecDepth 100000 in
theorem j_X11_next_8_n {p : Program} {l : Launch} {e : Env} {s : State} {m : MethodId} {args : Array Value} {below : List Frame} {meth : Method} {c : Code} {b : Nat} {D : va_G} {cy : Nat → ClassId} {G : Gm} {v0 : Nat} {Q : St → Prop} (C : CX p s m args meth c b D cy cX11_next RX11 1 none) (hE : s.heap.size + 0 ≤ b + G.2.2) (t_v0 : ok G 10 v0) : ∀ n S, f_X11_next_8_n G v0 Q n S → J p l e rm_X11_next s m args below meth c b D cy 1 (zV b D cy below args s G Q) 0 0 G S 8 [(0, .ref (b + v0))] [] := by
  intro n
  induction n with
  | zero => intro S h; exact h.elim
  | succ n ih =>
    intro S h
    unfold f_X11_next_8_n at h
    refine jB C [(.aload_n 0, 1, 0)] 9 [(0, .ref (b + v0))] [.ref (b + v0)] (by decide +kernel) rfl rfl ?_
    refine jGetI C 12 (by decide +kernel : decode cX11_next 9 = .ok (.getfield 278, 3)) rfl t_v0 kX11 15 (by decide) rfl rfl (by decide) wd_1169 ?_
    refine jB C [(.aload_n 0, 1, 0)] 13 [(0, .ref (b + v0))] [.ref (b + v0), .int (S.1 v0 15)] (by decide +kernel) rfl rfl ?_
    refine jGetI C 16 (by decide +kernel : decode cX11_next 13 = .ok (.getfield 259, 3)) rfl t_v0 kX11 14 (by decide) rfl rfl (by decide) wd_1168 ?_
    refine jIcmp_ge C 19 46 (by decide +kernel : decode cX11_next 16 = .ok (.if_icmp .ge 30, 3)) rfl rfl (fun c1 => ?_) (fun c1 => ?_)
    · have h := it1 h c1
      refine jSub [0] rfl ?_
      exact j_X11_next_46 C hE t_v0 h
    · have h := it2 h c1
      refine jB C [(.aload_n 0, 1, 0)] 20 [(0, .ref (b + v0))] [.ref (b + v0)] (by decide +kernel) rfl rfl ?_
      obtain ⟨a2, e_a2, h⟩ := h
      refine jGetR C 23 (by decide +kernel : decode cX11_next 20 = .ok (.getfield 38, 3)) rfl t_v0 kX11 13 (by decide) rfl rfl (by decide) wd_1167 e_a2 rfl (fun t_a2 => ?_)
      refine jB C [(.aload_n 0, 1, 0)] 24 [(0, .ref (b + v0))] [.ref (b + v0), .ref (b + a2)] (by decide +kernel) rfl rfl ?_
      refine jGetI C 27 (by decide +kernel : decode cX11_next 24 = .ok (.getfield 278, 3)) rfl t_v0 kX11 15 (by decide) rfl rfl (by decide) wd_1169 ?_
      obtain ⟨y3, h⟩ := h
      refine jIald C 28 (by decide +kernel : decode cX11_next 27 = .ok (.iaload, 1)) rfl t_a2 y3 ?_
      refine jB C [(.bipush 32, 2, 32)] 30 [(0, .ref (b + v0))] [.int 32, .int (S.1 a2 (S.1 v0 15).toNatClampNeg)] (by decide +kernel) rfl rfl ?_
      refine jIcmp_ne C 33 46 (by decide +kernel : decode cX11_next 30 = .ok (.if_icmp .ne 16, 3)) rfl rfl (fun c4 => ?_) (fun c4 => ?_)
      · have h := it2 h c4
        refine jSub [0] rfl ?_
        exact j_X11_next_46 C hE t_v0 h
      · have h := it1 h c4
        refine jB C [(.aload_n 0, 1, 0), (.dup, 1, 0)] 35 [(0, .ref (b + v0))] [.ref (b + v0), .ref (b + v0)] (by decide +kernel) rfl rfl ?_
        refine jGetI C 38 (by decide +kernel : decode cX11_next 35 = .ok (.getfield 278, 3)) rfl t_v0 kX11 15 (by decide) rfl rfl (by decide) wd_1169 ?_
        refine jB C [(.iconst 1, 1, 1), (.iadd, 1, 0)] 40 [(0, .ref (b + v0))] [.int ((S.1 v0 15) + 1), .ref (b + v0)] (by decide +kernel) rfl rfl ?_
        refine jPutI C 43 (by decide +kernel : decode cX11_next 40 = .ok (.putfield 278, 3)) rfl hE t_v0 kX11 15 (by decide) rfl rfl (by decide) rfl wd_1169 rfl rfl rfl ?_
        refine jTopS (fun S5 e_S5 => ?_)
        have h := h S5 e_S5
        refine jGoto C 8 (by decide +kernel : decode cX11_next 43 = .ok (.goto (-35), 3)) rfl ?_
        refine jSub [0] rfl ?_
        exact ih S5 h
theorem j_X11_next_8 {p : Program} {l : Launch} {e : Env} {s : State} {m : MethodId} {args : Array Value} {below : List Frame} {meth : Method} {c : Code} {b : Nat} {D : va_G} {cy : Nat → ClassId} {G : Gm} {v0 : Nat} {S : St} {Q : St → Prop} (C : CX p s m args meth c b D cy cX11_next RX11 1 none) (hE : s.heap.size + 0 ≤ b + G.2.2) (t_v0 : ok G 10 v0) (h : f_X11_next_8 G v0 Q S) : J p l e rm_X11_next s m args below meth c b D cy 1 (zV b D cy below args s G Q) 0 0 G S 8 [(0, .ref (b + v0))] [] := by
  obtain ⟨n, h⟩ := h
  exact j_X11_next_8_n C hE t_v0 n S h
set_option maxHeartbeats 4000000 in
set_option maxRecDepth 100000 in
theorem j_X11_next {p : Program} {l : Launch} {e : Env} {s : State} {m : MethodId} {args : Array Value} {below : List Frame} {meth : Method} {c : Code} {b : Nat} {D : va_G} {cy : Nat → ClassId} {G : Gm} {v0 : Nat} {S : St} {Q : St → Prop} (C : CX p s m args meth c b D cy cX11_next RX11 1 none) (hE : s.heap.size + 0 ≤ b + G.2.2) (t_v0 : ok G 10 v0) (h : f_X11_next G v0 Q S) : J p l e rm_X11_next s m args below meth c b D cy 1 (zV b D cy below args s G Q) 0 0 G S 0 [(0, .ref (b + v0))] [] := by
  unfold f_X11_next at h
  refine jB C [(.aload_n 0, 1, 0), (.aload_n 0, 1, 0)] 2 [(0, .ref (b + v0))] [.ref (b + v0), .ref (b + v0)] (by decide +kernel) rfl rfl ?_
  refine jGetI C 5 (by decide +kernel : decode cX11_next 2 = .ok (.getfield 268, 3)) rfl t_v0 kX11 16 (by decide) rfl rfl (by decide) wd_1170 ?_
  refine jPutI C 8 (by decide +kernel : decode cX11_next 5 = .ok (.putfield 278, 3)) rfl hE t_v0 kX11 15 (by decide) rfl rfl (by decide) rfl wd_1169 rfl rfl rfl ?_
  refine jTopS (fun S1 e_S1 => ?_)
  have h := h S1 e_S1
  refine jSub [0] rfl ?_
  exact j_X11_next_8 C hE t_v0 h
theorem ok_X11_next {G : Gm} {v0 : Nat} {S : St} {Q : St → Prop} (t_v0 : ok G 10 v0) (h : f_X11_next G v0 Q S) : MT yX11_next cX11_next 1 none rm_X11_next 0 0 (fun b => [.ref (b + v0)]) G S (QV (fun G1 S1 => G1 = G ∧ Q S1)) := MT.ofJ (by decide) (fun b => [(0, .ref (b + v0))]) (fun b => rfl) (fun b => Nat.le_of_ble_eq_true rfl) (fun l b D cy p e s m below meth c C hE hn => j_X11_next C hE t_v0 h)
theorem hd_X11_next : yX11_next.cls ≠ "java/lang/invoke/MethodHandle" ∧ yX11_next.cls ≠ "java/lang/invoke/VarHandle" ∧ (parseMethodDescriptor yX11_next.desc).map (fun d => d.parameters.length) = some 0 := by decide +kernel
def f_X11_begin (G : Gm) (v0 : Nat) (Q : St → Prop) (S : St) : Prop :=
  (∀ S1, S1 = uI S v0 16 0 → (∀ S2, S2 = uI S1 v0 20 0 → (∀ S3, S3 = uI S2 v0 19 (-1) → f_X11_next G v0 (fun S4 => Q S4) S3)))
abbrev rm_X11_begin : Room := { frames := 2, cells := 0, slots := 0, locals := 40 }
set_option maxHeartbeats 4000000 in
set_option maxRecDepth 100000 in
theorem j_X11_begin {p : Program} {l : Launch} {e : Env} {s : State} {m : MethodId} {args : Array Value} {below : List Frame} {meth : Method} {c : Code} {b : Nat} {D : va_G} {cy : Nat → ClassId} {G : Gm} {v0 : Nat} {S : St} {Q : St → Prop} (C : CX p s m args meth c b D cy cX11_begin RX11 1 none) (hE : s.heap.size + 0 ≤ b + G.2.2) (t_v0 : ok G 10 v0) (h : f_X11_begin G v0 Q S) : J p l e rm_X11_begin s m args below meth c b D cy 1 (zV b D cy below args s G Q) 0 0 G S 0 [(0, .ref (b + v0))] [] := by
  unfold f_X11_begin at h
  refine jB C [(.aload_n 0, 1, 0), (.iconst 0, 1, 0)] 2 [(0, .ref (b + v0))] [.int 0, .ref (b + v0)] (by decide +kernel) rfl rfl ?_
  refine jPutI C 5 (by decide +kernel : decode cX11_begin 2 = .ok (.putfield 268, 3)) rfl hE t_v0 kX11 16 (by decide) rfl rfl (by decide) rfl wd_1170 rfl rfl rfl ?_
  refine jTopS (fun S1 e_S1 => ?_)
  have h := h S1 e_S1
  refine jB C [(.aload_n 0, 1, 0), (.iconst 0, 1, 0)] 7 [(0, .ref (b + v0))] [.int 0, .ref (b + v0)] (by decide +kernel) rfl rfl ?_
  refine jPutI C 10 (by decide +kernel : decode cX11_begin 7 = .ok (.putfield 271, 3)) rfl hE t_v0 kX11 20 (by decide) rfl rfl (by decide) rfl wd_1174 rfl (by decide) (by decide) ?_
  refine jTopS (fun S2 e_S2 => ?_)
  have h := h S2 e_S2
  refine jB C [(.aload_n 0, 1, 0), (.iconst (-1), 1, (-1))] 12 [(0, .ref (b + v0))] [.int (-1), .ref (b + v0)] (by decide +kernel) rfl rfl ?_
  refine jPutI C 15 (by decide +kernel : decode cX11_begin 12 = .ok (.putfield 41, 3)) rfl hE t_v0 kX11 19 (by decide) rfl rfl (by decide) rfl wd_1173 rfl rfl rfl ?_
  refine jTopS (fun S3 e_S3 => ?_)
  have h := h S3 e_S3
  refine jB C [(.aload_n 0, 1, 0)] 16 [(0, .ref (b + v0))] [.ref (b + v0)] (by decide +kernel) rfl rfl ?_
  refine jcV_V C 19 (rest := []) (ok_X11_next t_v0 h) (by decide +kernel : decode cX11_begin 16 = .ok (.invokevirtual 275, 3)) rfl wd_1524 wd_1526 wp_121 wd_12 wd_1527 ⟨rfl, rfl⟩ hd_X11_next ⟨Nat.le_of_ble_eq_true rfl, Nat.le_of_ble_eq_true rfl⟩ t_v0 kX11 (by decide) rfl rfl rfl (Nat.le_of_ble_eq_true rfl) ⟨Nat.zero_le _, Nat.zero_le _⟩ (fun S4 h => ?_)
  exact jRetV C (by decide +kernel : decode cX11_begin 19 = .ok (.return_, 1)) (Nat.le_refl _) (Nat.le_refl _) ⟨rfl, h⟩
theorem ok_X11_begin {G : Gm} {v0 : Nat} {S : St} {Q : St → Prop} (t_v0 : ok G 10 v0) (h : f_X11_begin G v0 Q S) : MT yX11_begin cX11_begin 1 none rm_X11_begin 0 0 (fun b => [.ref (b + v0)]) G S (QV (fun G1 S1 => G1 = G ∧ Q S1)) := MT.ofJ (by decide) (fun b => [(0, .ref (b + v0))]) (fun b => rfl) (fun b => Nat.le_of_ble_eq_true rfl) (fun l b D cy p e s m below meth c C hE hn => j_X11_begin C hE t_v0 h)
theorem hd_X11_begin : yX11_begin.cls ≠ "java/lang/invoke/MethodHandle" ∧ yX11_begin.cls ≠ "java/lang/invoke/VarHandle" ∧ (parseMethodDescriptor yX11_begin.desc).map (fun d => d.parameters.length) = some 0 := by decide +kernel
def f_X11_beginText (G : Gm) (v0 : Nat) (v1 : Int32) (Q : St → Prop) (S : St) : Prop :=
  ((v1 = 0 ∨ v1 = 1) ∧ ∀ S1, S1 = uI S v0 21 v1 → f_X11_begin G v0 (fun S2 => (∀ S3, S3 = uI S2 v0 22 0 → (∀ S4, S4 = uI S3 v0 24 0 → (∀ S5, S5 = uI S4 v0 27 0 → Q S5)))) S1)
abbrev rm_X11_beginText : Room := { frames := 3, cells := 0, slots := 0, locals := 60 }
set_option maxHeartbeats 4000000 in
set_option maxRecDepth 100000 in
theorem j_X11_beginText {p : Program} {l : Launch} {e : Env} {s : State} {m : MethodId} {args : Array Value} {below : List Frame} {meth : Method} {c : Code} {b : Nat} {D : va_G} {cy : Nat → ClassId} {G : Gm} {v0 : Nat} {v1 : Int32} {S : St} {Q : St → Prop} (C : CX p s m args meth c b D cy cX11_beginText RX11 2 none) (hE : s.heap.size + 0 ≤ b + G.2.2) (t_v0 : ok G 10 v0) (h : f_X11_beginText G v0 v1 Q S) : J p l e rm_X11_beginText s m args below meth c b D cy 2 (zV b D cy below args s G Q) 0 0 G S 0 [(0, .ref (b + v0)), (1, .int v1)] [] := by
  unfold f_X11_beginText at h
  refine jB C [(.aload_n 0, 1, 0), (.iload_n 1, 1, 0)] 2 [(0, .ref (b + v0)), (1, .int v1)] [.int v1, .ref (b + v0)] (by decide +kernel) rfl rfl ?_
  obtain ⟨z6, h⟩ := h
  refine jPutI C 5 (by decide +kernel : decode cX11_beginText 2 = .ok (.putfield 347, 3)) rfl hE t_v0 kX11 21 (by decide) rfl rfl (by decide) rfl wd_1175 rfl (nbZ z6) (fbZ z6) ?_
  refine jTopS (fun S1 e_S1 => ?_)
  have h := h S1 e_S1
  refine jB C [(.aload_n 0, 1, 0)] 6 [(0, .ref (b + v0)), (1, .int v1)] [.ref (b + v0)] (by decide +kernel) rfl rfl ?_
  refine jcV_V C 9 (rest := []) (ok_X11_begin t_v0 h) (by decide +kernel : decode cX11_beginText 6 = .ok (.invokevirtual 396, 3)) rfl wd_1520 wd_1522 wp_120 wd_12 wd_1523 ⟨rfl, rfl⟩ hd_X11_begin ⟨Nat.le_of_ble_eq_true rfl, Nat.le_of_ble_eq_true rfl⟩ t_v0 kX11 (by decide) rfl rfl rfl (Nat.le_of_ble_eq_true rfl) ⟨Nat.zero_le _, Nat.zero_le _⟩ (fun S2 h => ?_)
  refine jB C [(.aload_n 0, 1, 0), (.iconst 0, 1, 0)] 11 [(0, .ref (b + v0)), (1, .int v1)] [.int 0, .ref (b + v0)] (by decide +kernel) rfl rfl ?_
  refine jPutI C 14 (by decide +kernel : decode cX11_beginText 11 = .ok (.putfield 399, 3)) rfl hE t_v0 kX11 22 (by decide) rfl rfl (by decide) rfl wd_1176 rfl rfl rfl ?_
  refine jTopS (fun S3 e_S3 => ?_)
  have h := h S3 e_S3
  refine jB C [(.aload_n 0, 1, 0), (.iconst 0, 1, 0)] 16 [(0, .ref (b + v0)), (1, .int v1)] [.int 0, .ref (b + v0)] (by decide +kernel) rfl rfl ?_
  refine jPutI C 19 (by decide +kernel : decode cX11_beginText 16 = .ok (.putfield 308, 3)) rfl hE t_v0 kX11 24 (by decide) rfl rfl (by decide) rfl wd_1178 rfl rfl rfl ?_
  refine jTopS (fun S4 e_S4 => ?_)
  have h := h S4 e_S4
  refine jB C [(.aload_n 0, 1, 0), (.iconst 0, 1, 0)] 21 [(0, .ref (b + v0)), (1, .int v1)] [.int 0, .ref (b + v0)] (by decide +kernel) rfl rfl ?_
  refine jPutI C 24 (by decide +kernel : decode cX11_beginText 21 = .ok (.putfield 338, 3)) rfl hE t_v0 kX11 27 (by decide) rfl rfl (by decide) rfl wd_1181 rfl rfl rfl ?_
  refine jTopS (fun S5 e_S5 => ?_)
  have h := h S5 e_S5
  exact jRetV C (by decide +kernel : decode cX11_beginText 24 = .ok (.return_, 1)) (Nat.le_refl _) (Nat.le_refl _) ⟨rfl, h⟩
theorem ok_X11_beginText {G : Gm} {v0 : Nat} {v1 : Int32} {S : St} {Q : St → Prop} (t_v0 : ok G 10 v0) (h : f_X11_beginText G v0 v1 Q S) : MT yX11_beginText cX11_beginText 2 none rm_X11_beginText 0 0 (fun b => [.ref (b + v0), .int v1]) G S (QV (fun G1 S1 => G1 = G ∧ Q S1)) := MT.ofJ (by decide) (fun b => [(0, .ref (b + v0)), (1, .int v1)]) (fun b => rfl) (fun b => Nat.le_of_ble_eq_true rfl) (fun l b D cy p e s m below meth c C hE hn => j_X11_beginText C hE t_v0 h)
theorem hd_X11_beginText : yX11_beginText.cls ≠ "java/lang/invoke/MethodHandle" ∧ yX11_beginText.cls ≠ "java/lang/invoke/VarHandle" ∧ (parseMethodDescriptor yX11_beginText.desc).map (fun d => d.parameters.length) = some 1 := by decide +kernel
def f_X11_isSign (G : Gm) (v0 : Nat) (v1 : Int32) (Q : Int32 → St → Prop) (S : St) : Prop :=
  (if (S.1 v0 17) = 3 then (if (lg_cmp (S.2.1 v0 18) v1.toInt64) = 0 then Q 1 S else Q 0 S) else Q 0 S)
abbrev rm_X11_isSign : Room := { frames := 0, cells := 0, slots := 0, locals := 0 }
set_option maxHeartbeats 4000000 in
set_option maxRecDepth 100000 in
theorem j_X11_isSign {p : Program} {l : Launch} {e : Env} {s : State} {m : MethodId} {args : Array Value} {below : List Frame} {meth : Method} {c : Code} {b : Nat} {D : va_G} {cy : Nat → ClassId} {G : Gm} {v0 : Nat} {v1 : Int32} {S : St} {Q : Int32 → St → Prop} (C : CX p s m args meth c b D cy cX11_isSign RX11 2 (some .boolean)) (hE : s.heap.size + 0 ≤ b + G.2.2) (t_v0 : ok G 10 v0) (h : f_X11_isSign G v0 v1 Q S) : J p l e rm_X11_isSign s m args below meth c b D cy 2 (zI b D cy below args s G Q) 0 0 G S 0 [(0, .ref (b + v0)), (1, .int v1)] [] := by
  unfold f_X11_isSign at h
  refine jB C [(.aload_n 0, 1, 0)] 1 [(0, .ref (b + v0)), (1, .int v1)] [.ref (b + v0)] (by decide +kernel) rfl rfl ?_
  refine jGetI C 4 (by decide +kernel : decode cX11_isSign 1 = .ok (.getfield 291, 3)) rfl t_v0 kX11 17 (by decide) rfl rfl (by decide) wd_1171 ?_
  refine jB C [(.iconst 3, 1, 3)] 5 [(0, .ref (b + v0)), (1, .int v1)] [.int 3, .int (S.1 v0 17)] (by decide +kernel) rfl rfl ?_
  refine jIcmp_ne C 8 22 (by decide +kernel : decode cX11_isSign 5 = .ok (.if_icmp .ne 17, 3)) rfl rfl (fun c1 => ?_) (fun c1 => ?_)
  · have h := it2 h c1
    refine jB C [(.iconst 0, 1, 0)] 23 [(0, .ref (b + v0)), (1, .int v1)] [.int 0] (by decide +kernel) rfl rfl ?_
    exact jRetZ C (by decide +kernel : decode cX11_isSign 23 = .ok (.ireturn, 1)) (Nat.le_refl _) (Nat.le_refl _) (by decide) ⟨rfl, h⟩
  · have h := it1 h c1
    refine jB C [(.aload_n 0, 1, 0)] 9 [(0, .ref (b + v0)), (1, .int v1)] [.ref (b + v0)] (by decide +kernel) rfl rfl ?_
    refine jGetJ C 12 (by decide +kernel : decode cX11_isSign 9 = .ok (.getfield 281, 3)) rfl t_v0 kX11 18 (by decide) rfl rfl (by decide) wd_1172 ?_
    refine jB C [(.iload_n 1, 1, 0), (.i2l, 1, 0), (.lcmp, 1, 0)] 15 [(0, .ref (b + v0)), (1, .int v1)] [.int (lg_cmp (S.2.1 v0 18) v1.toInt64)] (by decide +kernel) rfl rfl ?_
    refine jIf_ne C 18 22 (by decide +kernel : decode cX11_isSign 15 = .ok (.ifCond .ne 7, 3)) rfl rfl (fun c2 => ?_) (fun c2 => ?_)
    · have h := it2 h c2
      refine jB C [(.iconst 0, 1, 0)] 23 [(0, .ref (b + v0)), (1, .int v1)] [.int 0] (by decide +kernel) rfl rfl ?_
      exact jRetZ C (by decide +kernel : decode cX11_isSign 23 = .ok (.ireturn, 1)) (Nat.le_refl _) (Nat.le_refl _) (by decide) ⟨rfl, h⟩
    · have h := it1 h c2
      refine jB C [(.iconst 1, 1, 1)] 19 [(0, .ref (b + v0)), (1, .int v1)] [.int 1] (by decide +kernel) rfl rfl ?_
      refine jGoto C 23 (by decide +kernel : decode cX11_isSign 19 = .ok (.goto 4, 3)) rfl ?_
      exact jRetZ C (by decide +kernel : decode cX11_isSign 23 = .ok (.ireturn, 1)) (Nat.le_refl _) (Nat.le_refl _) (by decide) ⟨rfl, h⟩
theorem ok_X11_isSign {G : Gm} {v0 : Nat} {v1 : Int32} {S : St} {Q : Int32 → St → Prop} (t_v0 : ok G 10 v0) (h : f_X11_isSign G v0 v1 Q S) : MT yX11_isSign cX11_isSign 2 (some .boolean) rm_X11_isSign 0 0 (fun b => [.ref (b + v0), .int v1]) G S (QI (fun r G1 S1 => G1 = G ∧ Q r S1)) := MT.ofJ (by decide) (fun b => [(0, .ref (b + v0)), (1, .int v1)]) (fun b => rfl) (fun b => Nat.le_of_ble_eq_true rfl) (fun l b D cy p e s m below meth c C hE hn => j_X11_isSign C hE t_v0 h)
theorem hd_X11_isSign : yX11_isSign.cls ≠ "java/lang/invoke/MethodHandle" ∧ yX11_isSign.cls ≠ "java/lang/invoke/VarHandle" ∧ (parseMethodDescriptor yX11_isSign.desc).map (fun d => d.parameters.length) = some 1 := by decide +kernel
def f_X11_binds (G : Gm) (v0 : Int32) (Q : Int32 → St → Prop) (S : St) : Prop :=
  (if v0 < 31 then (if v0 = 30 then Q 1 S else (if v0 = 29 then Q 2 S else (if v0 = 28 then Q 3 S else (if v0 < 25 then (if v0 < 22 then Q 5 S else Q 6 S) else Q 4 S)))) else Q 0 S)
abbrev rm_X11_binds : Room := { frames := 0, cells := 0, slots := 0, locals := 0 }
set_option maxHeartbeats 4000000 in
set_option maxRecDepth 100000 in
theorem j_X11_binds {p : Program} {l : Launch} {e : Env} {s : State} {m : MethodId} {args : Array Value} {below : List Frame} {meth : Method} {c : Code} {b : Nat} {D : va_G} {cy : Nat → ClassId} {G : Gm} {v0 : Int32} {S : St} {Q : Int32 → St → Prop} (C : CX p s m args meth c b D cy cX11_binds RX11 1 (some .int)) (hE : s.heap.size + 0 ≤ b + G.2.2) (h : f_X11_binds G v0 Q S) : J p l e rm_X11_binds s m args below meth c b D cy 1 (zI b D cy below args s G Q) 0 0 G S 0 [(0, .int v0)] [] := by
  unfold f_X11_binds at h
  refine jB C [(.iload_n 0, 1, 0), (.bipush 31, 2, 31)] 3 [(0, .int v0)] [.int 31, .int v0] (by decide +kernel) rfl rfl ?_
  refine jIcmp_lt C 6 10 (by decide +kernel : decode cX11_binds 3 = .ok (.if_icmp .lt 7, 3)) rfl rfl (fun c1 => ?_) (fun c1 => ?_)
  · have h := it1 h c1
    refine jB C [(.iload_n 0, 1, 0), (.bipush 30, 2, 30)] 13 [(0, .int v0)] [.int 30, .int v0] (by decide +kernel) rfl rfl ?_
    refine jIcmp_ne C 16 20 (by decide +kernel : decode cX11_binds 13 = .ok (.if_icmp .ne 7, 3)) rfl rfl (fun c2 => ?_) (fun c2 => ?_)
    · have h := it2 h c2
      refine jB C [(.iload_n 0, 1, 0), (.bipush 29, 2, 29)] 23 [(0, .int v0)] [.int 29, .int v0] (by decide +kernel) rfl rfl ?_
      refine jIcmp_ne C 26 30 (by decide +kernel : decode cX11_binds 23 = .ok (.if_icmp .ne 7, 3)) rfl rfl (fun c3 => ?_) (fun c3 => ?_)
      · have h := it2 h c3
        refine jB C [(.iload_n 0, 1, 0), (.bipush 28, 2, 28)] 33 [(0, .int v0)] [.int 28, .int v0] (by decide +kernel) rfl rfl ?_
        refine jIcmp_ne C 36 40 (by decide +kernel : decode cX11_binds 33 = .ok (.if_icmp .ne 7, 3)) rfl rfl (fun c4 => ?_) (fun c4 => ?_)
        · have h := it2 h c4
          refine jB C [(.iload_n 0, 1, 0), (.bipush 25, 2, 25)] 43 [(0, .int v0)] [.int 25, .int v0] (by decide +kernel) rfl rfl ?_
          refine jIcmp_lt C 46 50 (by decide +kernel : decode cX11_binds 43 = .ok (.if_icmp .lt 7, 3)) rfl rfl (fun c5 => ?_) (fun c5 => ?_)
          · have h := it1 h c5
            refine jB C [(.iload_n 0, 1, 0), (.bipush 22, 2, 22)] 53 [(0, .int v0)] [.int 22, .int v0] (by decide +kernel) rfl rfl ?_
            refine jIcmp_lt C 56 61 (by decide +kernel : decode cX11_binds 53 = .ok (.if_icmp .lt 8, 3)) rfl rfl (fun c6 => ?_) (fun c6 => ?_)
            · have h := it1 h c6
              refine jB C [(.iconst 5, 1, 5)] 62 [(0, .int v0)] [.int 5] (by decide +kernel) rfl rfl ?_
              exact jRetI C (by decide +kernel : decode cX11_binds 62 = .ok (.ireturn, 1)) (Nat.le_refl _) (Nat.le_refl _) ⟨rfl, h⟩
            · have h := it2 h c6
              refine jB C [(.bipush 6, 2, 6)] 58 [(0, .int v0)] [.int 6] (by decide +kernel) rfl rfl ?_
              refine jGoto C 62 (by decide +kernel : decode cX11_binds 58 = .ok (.goto 4, 3)) rfl ?_
              exact jRetI C (by decide +kernel : decode cX11_binds 62 = .ok (.ireturn, 1)) (Nat.le_refl _) (Nat.le_refl _) ⟨rfl, h⟩
          · have h := it2 h c5
            refine jB C [(.iconst 4, 1, 4)] 47 [(0, .int v0)] [.int 4] (by decide +kernel) rfl rfl ?_
            refine jGoto C 62 (by decide +kernel : decode cX11_binds 47 = .ok (.goto 15, 3)) rfl ?_
            exact jRetI C (by decide +kernel : decode cX11_binds 62 = .ok (.ireturn, 1)) (Nat.le_refl _) (Nat.le_refl _) ⟨rfl, h⟩
        · have h := it1 h c4
          refine jB C [(.iconst 3, 1, 3)] 37 [(0, .int v0)] [.int 3] (by decide +kernel) rfl rfl ?_
          refine jGoto C 62 (by decide +kernel : decode cX11_binds 37 = .ok (.goto 25, 3)) rfl ?_
          exact jRetI C (by decide +kernel : decode cX11_binds 62 = .ok (.ireturn, 1)) (Nat.le_refl _) (Nat.le_refl _) ⟨rfl, h⟩
      · have h := it1 h c3
        refine jB C [(.iconst 2, 1, 2)] 27 [(0, .int v0)] [.int 2] (by decide +kernel) rfl rfl ?_
        refine jGoto C 62 (by decide +kernel : decode cX11_binds 27 = .ok (.goto 35, 3)) rfl ?_
        exact jRetI C (by decide +kernel : decode cX11_binds 62 = .ok (.ireturn, 1)) (Nat.le_refl _) (Nat.le_refl _) ⟨rfl, h⟩
    · have h := it1 h c2
      refine jB C [(.iconst 1, 1, 1)] 17 [(0, .int v0)] [.int 1] (by decide +kernel) rfl rfl ?_
      refine jGoto C 62 (by decide +kernel : decode cX11_binds 17 = .ok (.goto 45, 3)) rfl ?_
      exact jRetI C (by decide +kernel : decode cX11_binds 62 = .ok (.ireturn, 1)) (Nat.le_refl _) (Nat.le_refl _) ⟨rfl, h⟩
  · have h := it2 h c1
    refine jB C [(.iconst 0, 1, 0)] 7 [(0, .int v0)] [.int 0] (by decide +kernel) rfl rfl ?_
    refine jGoto C 62 (by decide +kernel : decode cX11_binds 7 = .ok (.goto 55, 3)) rfl ?_
    exact jRetI C (by decide +kernel : decode cX11_binds 62 = .ok (.ireturn, 1)) (Nat.le_refl _) (Nat.le_refl _) ⟨rfl, h⟩
theorem ok_X11_binds {G : Gm} {v0 : Int32} {S : St} {Q : Int32 → St → Prop} (h : f_X11_binds G v0 Q S) : MT yX11_binds cX11_binds 1 (some .int) rm_X11_binds 0 0 (fun b => [.int v0]) G S (QI (fun r G1 S1 => G1 = G ∧ Q r S1)) := MT.ofJ (by decide) (fun b => [(0, .int v0)]) (fun b => rfl) (fun b => Nat.le_of_ble_eq_true rfl) (fun l b D cy p e s m below meth c C hE hn => j_X11_binds C hE h)
theorem hd_X11_binds : yX11_binds.cls ≠ "java/lang/invoke/MethodHandle" ∧ yX11_binds.cls ≠ "java/lang/invoke/VarHandle" ∧ (parseMethodDescriptor yX11_binds.desc).map (fun d => d.parameters.length) = some 1 := by decide +kernel
def f_X11_emit (G : Gm) (v0 : Nat) (v1 : Int32) (v2 : Int32) (Q : St → Prop) (S : St) : Prop :=
  (∃ a1, S.2.2 v0 25 = some a1 ∧ (vp_in (S.1 v0 24) (G.2.1 a1) ∧ ∀ S3, S3 = uI S a1 (S.1 v0 24).toNatClampNeg v1 → (∃ a4, S3.2.2 v0 26 = some a4 ∧ (vp_in (S3.1 v0 24) (G.2.1 a4) ∧ ∀ S6, S6 = uI S3 a4 (S3.1 v0 24).toNatClampNeg v2 → (∀ S7, S7 = uI S6 v0 24 ((S6.1 v0 24) + 1) → Q S7)))))
abbrev rm_X11_emit : Room := { frames := 0, cells := 0, slots := 0, locals := 0 }
set_option maxHeartbeats 4000000 in
set_option maxRecDepth 100000 in
theorem j_X11_emit {p : Program} {l : Launch} {e : Env} {s : State} {m : MethodId} {args : Array Value} {below : List Frame} {meth : Method} {c : Code} {b : Nat} {D : va_G} {cy : Nat → ClassId} {G : Gm} {v0 : Nat} {v1 : Int32} {v2 : Int32} {S : St} {Q : St → Prop} (C : CX p s m args meth c b D cy cX11_emit RX11 3 none) (hE : s.heap.size + 0 ≤ b + G.2.2) (t_v0 : ok G 10 v0) (h : f_X11_emit G v0 v1 v2 Q S) : J p l e rm_X11_emit s m args below meth c b D cy 3 (zV b D cy below args s G Q) 0 0 G S 0 [(0, .ref (b + v0)), (1, .int v1), (2, .int v2)] [] := by
  unfold f_X11_emit at h
  refine jB C [(.aload_n 0, 1, 0)] 1 [(0, .ref (b + v0)), (1, .int v1), (2, .int v2)] [.ref (b + v0)] (by decide +kernel) rfl rfl ?_
  obtain ⟨a1, e_a1, h⟩ := h
  refine jGetR C 4 (by decide +kernel : decode cX11_emit 1 = .ok (.getfield 48, 3)) rfl t_v0 kX11 25 (by decide) rfl rfl (by decide) wd_1179 e_a1 rfl (fun t_a1 => ?_)
  refine jB C [(.aload_n 0, 1, 0)] 5 [(0, .ref (b + v0)), (1, .int v1), (2, .int v2)] [.ref (b + v0), .ref (b + a1)] (by decide +kernel) rfl rfl ?_
  refine jGetI C 8 (by decide +kernel : decode cX11_emit 5 = .ok (.getfield 308, 3)) rfl t_v0 kX11 24 (by decide) rfl rfl (by decide) wd_1178 ?_
  refine jB C [(.iload_n 1, 1, 0)] 9 [(0, .ref (b + v0)), (1, .int v1), (2, .int v2)] [.int v1, .int (S.1 v0 24), .ref (b + a1)] (by decide +kernel) rfl rfl ?_
  obtain ⟨y2, h⟩ := h
  refine jIast C 10 (by decide +kernel : decode cX11_emit 9 = .ok (.iastore, 1)) rfl hE t_a1 y2 ?_
  refine jTopS (fun S3 e_S3 => ?_)
  have h := h S3 e_S3
  refine jB C [(.aload_n 0, 1, 0)] 11 [(0, .ref (b + v0)), (1, .int v1), (2, .int v2)] [.ref (b + v0)] (by decide +kernel) rfl rfl ?_
  obtain ⟨a4, e_a4, h⟩ := h
  refine jGetR C 14 (by decide +kernel : decode cX11_emit 11 = .ok (.getfield 51, 3)) rfl t_v0 kX11 26 (by decide) rfl rfl (by decide) wd_1180 e_a4 rfl (fun t_a4 => ?_)
  refine jB C [(.aload_n 0, 1, 0)] 15 [(0, .ref (b + v0)), (1, .int v1), (2, .int v2)] [.ref (b + v0), .ref (b + a4)] (by decide +kernel) rfl rfl ?_
  refine jGetI C 18 (by decide +kernel : decode cX11_emit 15 = .ok (.getfield 308, 3)) rfl t_v0 kX11 24 (by decide) rfl rfl (by decide) wd_1178 ?_
  refine jB C [(.iload_n 2, 1, 0)] 19 [(0, .ref (b + v0)), (1, .int v1), (2, .int v2)] [.int v2, .int (S3.1 v0 24), .ref (b + a4)] (by decide +kernel) rfl rfl ?_
  obtain ⟨y5, h⟩ := h
  refine jIast C 20 (by decide +kernel : decode cX11_emit 19 = .ok (.iastore, 1)) rfl hE t_a4 y5 ?_
  refine jTopS (fun S6 e_S6 => ?_)
  have h := h S6 e_S6
  refine jB C [(.aload_n 0, 1, 0), (.dup, 1, 0)] 22 [(0, .ref (b + v0)), (1, .int v1), (2, .int v2)] [.ref (b + v0), .ref (b + v0)] (by decide +kernel) rfl rfl ?_
  refine jGetI C 25 (by decide +kernel : decode cX11_emit 22 = .ok (.getfield 308, 3)) rfl t_v0 kX11 24 (by decide) rfl rfl (by decide) wd_1178 ?_
  refine jB C [(.iconst 1, 1, 1), (.iadd, 1, 0)] 27 [(0, .ref (b + v0)), (1, .int v1), (2, .int v2)] [.int ((S6.1 v0 24) + 1), .ref (b + v0)] (by decide +kernel) rfl rfl ?_
  refine jPutI C 30 (by decide +kernel : decode cX11_emit 27 = .ok (.putfield 308, 3)) rfl hE t_v0 kX11 24 (by decide) rfl rfl (by decide) rfl wd_1178 rfl rfl rfl ?_
  refine jTopS (fun S7 e_S7 => ?_)
  have h := h S7 e_S7
  exact jRetV C (by decide +kernel : decode cX11_emit 30 = .ok (.return_, 1)) (Nat.le_refl _) (Nat.le_refl _) ⟨rfl, h⟩
theorem ok_X11_emit {G : Gm} {v0 : Nat} {v1 : Int32} {v2 : Int32} {S : St} {Q : St → Prop} (t_v0 : ok G 10 v0) (h : f_X11_emit G v0 v1 v2 Q S) : MT yX11_emit cX11_emit 3 none rm_X11_emit 0 0 (fun b => [.ref (b + v0), .int v1, .int v2]) G S (QV (fun G1 S1 => G1 = G ∧ Q S1)) := MT.ofJ (by decide) (fun b => [(0, .ref (b + v0)), (1, .int v1), (2, .int v2)]) (fun b => rfl) (fun b => Nat.le_of_ble_eq_true rfl) (fun l b D cy p e s m below meth c C hE hn => j_X11_emit C hE t_v0 h)
theorem hd_X11_emit : yX11_emit.cls ≠ "java/lang/invoke/MethodHandle" ∧ yX11_emit.cls ≠ "java/lang/invoke/VarHandle" ∧ (parseMethodDescriptor yX11_emit.desc).map (fun d => d.parameters.length) = some 2 := by decide +kernel
def f_X11_settle_63 (G : Gm) (k0 : St → Prop) (v0 : Nat) (v1 : Int32) (Q : St → Prop) (S : St) : Prop :=
  (∃ a1, S.2.2 v0 26 = some a1 ∧ (∃ a2, S.2.2 v0 29 = some a2 ∧ (vp_in (S.1 v0 30) (G.2.1 a2) ∧ (vp_in (S.1 a2 (S.1 v0 30).toNatClampNeg) (G.2.1 a1) ∧ ∀ S5, S5 = uI S a1 (S.1 a2 (S.1 v0 30).toNatClampNeg).toNatClampNeg (S.1 v0 24) → k0  S5))))
def f_X11_settle_0_n (G : Gm) (v0 : Nat) (v1 : Int32) (Q : St → Prop) : Nat → St → Prop
  | 0, _ => False
  | n + 1, S => (if (S.1 v0 30) ≤ 0 then Q S else (∃ a2, S.2.2 v0 28 = some a2 ∧ (vp_in ((S.1 v0 30) - 1) (G.2.1 a2) ∧ f_X11_binds G (S.1 a2 ((S.1 v0 30) - 1).toNatClampNeg) (fun r5 S4 => (if r5 < v1 then Q S4 else (∀ S7, S7 = uI S4 v0 30 ((S4.1 v0 30) - 1) → (∃ a8, S7.2.2 v0 28 = some a8 ∧ (vp_in (S7.1 v0 30) (G.2.1 a8) ∧ (if (S7.1 a8 (S7.1 v0 30).toNatClampNeg) = 29 then f_X11_settle_63 G (f_X11_settle_0_n G v0 v1 Q n) v0 v1 Q S7 else (∃ a11, S7.2.2 v0 28 = some a11 ∧ (vp_in (S7.1 v0 30) (G.2.1 a11) ∧ (if (S7.1 a11 (S7.1 v0 30).toNatClampNeg) = 30 then f_X11_settle_63 G (f_X11_settle_0_n G v0 v1 Q n) v0 v1 Q S7 else (∃ a14, S7.2.2 v0 28 = some a14 ∧ (vp_in (S7.1 v0 30) (G.2.1 a14) ∧ f_X11_emit G v0 (S7.1 a14 (S7.1 v0 30).toNatClampNeg) 0 (fun S16 => (f_X11_settle_0_n G v0 v1 Q n)  S16) S7))))))))))) S)))
def f_X11_settle_0 (G : Gm) (v0 : Nat) (v1 : Int32) (Q : St → Prop) (S : St) : Prop := ∃ n, f_X11_settle_0_n G v0 v1 Q n S
def f_X11_settle (G : Gm) (v0 : Nat) (v1 : Int32) (Q : St → Prop) (S : St) : Prop := f_X11_settle_0 G v0 v1 Q S
abbrev rm_X11_settle : Room := { frames := 1, cells := 0, slots := 0, locals := 22 }
set_option maxHeartbeats 4000000 in
set_option maxRecDepth 100000 in
theorem j_X11_settle_63 {p : Program} {l : Launch} {e : Env} {s : State} {m : MethodId} {args : Array Value} {below : List Frame} {meth : Method} {c : Code} {b : Nat} {D : va_G} {cy : Nat → ClassId} {G : Gm} {k0 : St → Prop} {v0 : Nat} {v1 : Int32} {S : St} {Q : St → Prop} (C : CX p s m args meth c b D cy cX11_settle RX11 2 none) (hE : s.heap.size + 0 ≤ b + G.2.2) (t_v0 : ok G 10 v0) (hk0 : ∀ S, k0 S → J p l e rm_X11_settle s m args below meth c b D cy 2 (zV b D cy below args s G Q) 0 0 G S 0 [(0, .ref (b + v0)), (1, .int v1)] []) (h : f_X11_settle_63 G k0 v0 v1 Q S) : J p l e rm_X11_settle s m args below meth c b D cy 2 (zV b D cy below args s G Q) 0 0 G S 63 [(0, .ref (b + v0)), (1, .int v1)] [] := by
  unfold f_X11_settle_63 at h
  refine jB C [(.aload_n 0, 1, 0)] 64 [(0, .ref (b + v0)), (1, .int v1)] [.ref (b + v0)] (by decide +kernel) rfl rfl ?_
  obtain ⟨a1, e_a1, h⟩ := h
  refine jGetR C 67 (by decide +kernel : decode cX11_settle 64 = .ok (.getfield 51, 3)) rfl t_v0 kX11 26 (by decide) rfl rfl (by decide) wd_1180 e_a1 rfl (fun t_a1 => ?_)
  refine jB C [(.aload_n 0, 1, 0)] 68 [(0, .ref (b + v0)), (1, .int v1)] [.ref (b + v0), .ref (b + a1)] (by decide +kernel) rfl rfl ?_
  obtain ⟨a2, e_a2, h⟩ := h
  refine jGetR C 71 (by decide +kernel : decode cX11_settle 68 = .ok (.getfield 57, 3)) rfl t_v0 kX11 29 (by decide) rfl rfl (by decide) wd_1183 e_a2 rfl (fun t_a2 => ?_)
  refine jB C [(.aload_n 0, 1, 0)] 72 [(0, .ref (b + v0)), (1, .int v1)] [.ref (b + v0), .ref (b + a2), .ref (b + a1)] (by decide +kernel) rfl rfl ?_
  refine jGetI C 75 (by decide +kernel : decode cX11_settle 72 = .ok (.getfield 311, 3)) rfl t_v0 kX11 30 (by decide) rfl rfl (by decide) wd_1184 ?_
  obtain ⟨y3, h⟩ := h
  refine jIald C 76 (by decide +kernel : decode cX11_settle 75 = .ok (.iaload, 1)) rfl t_a2 y3 ?_
  refine jB C [(.aload_n 0, 1, 0)] 77 [(0, .ref (b + v0)), (1, .int v1)] [.ref (b + v0), .int (S.1 a2 (S.1 v0 30).toNatClampNeg), .ref (b + a1)] (by decide +kernel) rfl rfl ?_
  refine jGetI C 80 (by decide +kernel : decode cX11_settle 77 = .ok (.getfield 308, 3)) rfl t_v0 kX11 24 (by decide) rfl rfl (by decide) wd_1178 ?_
  obtain ⟨y4, h⟩ := h
  refine jIast C 81 (by decide +kernel : decode cX11_settle 80 = .ok (.iastore, 1)) rfl hE t_a1 y4 ?_
  refine jTopS (fun S5 e_S5 => ?_)
  have h := h S5 e_S5
  refine jGoto C 0 (by decide +kernel : decode cX11_settle 81 = .ok (.goto (-81), 3)) rfl ?_
  refine jSub [0, 1] rfl ?_
  exact hk0 S5 h
set_option maxHeartbeats 4000000 in
set_option maxRecDepth 100000 in
theorem j_X11_settle_0_n {p : Program} {l : Launch} {e : Env} {s : State} {m : MethodId} {args : Array Value} {below : List Frame} {meth : Method} {c : Code} {b : Nat} {D : va_G} {cy : Nat → ClassId} {G : Gm} {v0 : Nat} {v1 : Int32} {Q : St → Prop} (C : CX p s m args meth c b D cy cX11_settle RX11 2 none) (hE : s.heap.size + 0 ≤ b + G.2.2) (t_v0 : ok G 10 v0) : ∀ n S, f_X11_settle_0_n G v0 v1 Q n S → J p l e rm_X11_settle s m args below meth c b D cy 2 (zV b D cy below args s G Q) 0 0 G S 0 [(0, .ref (b + v0)), (1, .int v1)] [] := by
  intro n
  induction n with
  | zero => intro S h; exact h.elim
  | succ n ih =>
    intro S h
    unfold f_X11_settle_0_n at h
    refine jB C [(.aload_n 0, 1, 0)] 1 [(0, .ref (b + v0)), (1, .int v1)] [.ref (b + v0)] (by decide +kernel) rfl rfl ?_
    refine jGetI C 4 (by decide +kernel : decode cX11_settle 1 = .ok (.getfield 311, 3)) rfl t_v0 kX11 30 (by decide) rfl rfl (by decide) wd_1184 ?_
    refine jIf_le C 7 101 (by decide +kernel : decode cX11_settle 4 = .ok (.ifCond .le 97, 3)) rfl rfl (fun c1 => ?_) (fun c1 => ?_)
    · have h := it1 h c1
      exact jRetV C (by decide +kernel : decode cX11_settle 101 = .ok (.return_, 1)) (Nat.le_refl _) (Nat.le_refl _) ⟨rfl, h⟩
    · have h := it2 h c1
      refine jB C [(.aload_n 0, 1, 0)] 8 [(0, .ref (b + v0)), (1, .int v1)] [.ref (b + v0)] (by decide +kernel) rfl rfl ?_
      obtain ⟨a2, e_a2, h⟩ := h
      refine jGetR C 11 (by decide +kernel : decode cX11_settle 8 = .ok (.getfield 54, 3)) rfl t_v0 kX11 28 (by decide) rfl rfl (by decide) wd_1182 e_a2 rfl (fun t_a2 => ?_)
      refine jB C [(.aload_n 0, 1, 0)] 12 [(0, .ref (b + v0)), (1, .int v1)] [.ref (b + v0), .ref (b + a2)] (by decide +kernel) rfl rfl ?_
      refine jGetI C 15 (by decide +kernel : decode cX11_settle 12 = .ok (.getfield 311, 3)) rfl t_v0 kX11 30 (by decide) rfl rfl (by decide) wd_1184 ?_
      refine jB C [(.iconst 1, 1, 1), (.isub, 1, 0)] 17 [(0, .ref (b + v0)), (1, .int v1)] [.int ((S.1 v0 30) - 1), .ref (b + a2)] (by decide +kernel) rfl rfl ?_
      obtain ⟨y3, h⟩ := h
      refine jIald C 18 (by decide +kernel : decode cX11_settle 17 = .ok (.iaload, 1)) rfl t_a2 y3 ?_
      refine jcS_I C 21 (rest := []) (ok_X11_binds h) (by decide +kernel : decode cX11_settle 18 = .ok (.invokestatic 314, 3)) rfl wd_1600 wd_1601 wd_12 wd_1602 ⟨rfl, rfl⟩ hd_X11_binds ⟨Nat.le_of_ble_eq_true rfl, Nat.le_of_ble_eq_true rfl⟩ rfl rfl (Nat.le_of_ble_eq_true rfl) ⟨Nat.zero_le _, Nat.zero_le _⟩ (fun r5 S4 h => ?_)
      refine jB C [(.iload_n 1, 1, 0)] 22 [(0, .ref (b + v0)), (1, .int v1)] [.int v1, .int r5] (by decide +kernel) rfl rfl ?_
      refine jIcmp_lt C 25 101 (by decide +kernel : decode cX11_settle 22 = .ok (.if_icmp .lt 79, 3)) rfl rfl (fun c6 => ?_) (fun c6 => ?_)
      · have h := it1 h c6
        exact jRetV C (by decide +kernel : decode cX11_settle 101 = .ok (.return_, 1)) (Nat.le_refl _) (Nat.le_refl _) ⟨rfl, h⟩
      · have h := it2 h c6
        refine jB C [(.aload_n 0, 1, 0), (.dup, 1, 0)] 27 [(0, .ref (b + v0)), (1, .int v1)] [.ref (b + v0), .ref (b + v0)] (by decide +kernel) rfl rfl ?_
        refine jGetI C 30 (by decide +kernel : decode cX11_settle 27 = .ok (.getfield 311, 3)) rfl t_v0 kX11 30 (by decide) rfl rfl (by decide) wd_1184 ?_
        refine jB C [(.iconst 1, 1, 1), (.isub, 1, 0)] 32 [(0, .ref (b + v0)), (1, .int v1)] [.int ((S4.1 v0 30) - 1), .ref (b + v0)] (by decide +kernel) rfl rfl ?_
        refine jPutI C 35 (by decide +kernel : decode cX11_settle 32 = .ok (.putfield 311, 3)) rfl hE t_v0 kX11 30 (by decide) rfl rfl (by decide) rfl wd_1184 rfl rfl rfl ?_
        refine jTopS (fun S7 e_S7 => ?_)
        have h := h S7 e_S7
        refine jB C [(.aload_n 0, 1, 0)] 36 [(0, .ref (b + v0)), (1, .int v1)] [.ref (b + v0)] (by decide +kernel) rfl rfl ?_
        obtain ⟨a8, e_a8, h⟩ := h
        refine jGetR C 39 (by decide +kernel : decode cX11_settle 36 = .ok (.getfield 54, 3)) rfl t_v0 kX11 28 (by decide) rfl rfl (by decide) wd_1182 e_a8 rfl (fun t_a8 => ?_)
        refine jB C [(.aload_n 0, 1, 0)] 40 [(0, .ref (b + v0)), (1, .int v1)] [.ref (b + v0), .ref (b + a8)] (by decide +kernel) rfl rfl ?_
        refine jGetI C 43 (by decide +kernel : decode cX11_settle 40 = .ok (.getfield 311, 3)) rfl t_v0 kX11 30 (by decide) rfl rfl (by decide) wd_1184 ?_
        obtain ⟨y9, h⟩ := h
        refine jIald C 44 (by decide +kernel : decode cX11_settle 43 = .ok (.iaload, 1)) rfl t_a8 y9 ?_
        refine jB C [(.bipush 29, 2, 29)] 46 [(0, .ref (b + v0)), (1, .int v1)] [.int 29, .int (S7.1 a8 (S7.1 v0 30).toNatClampNeg)] (by decide +kernel) rfl rfl ?_
        refine jIcmp_eq C 49 63 (by decide +kernel : decode cX11_settle 46 = .ok (.if_icmp .eq 17, 3)) rfl rfl (fun c10 => ?_) (fun c10 => ?_)
        · have h := it1 h c10
          refine jSub [0, 1] rfl ?_
          exact j_X11_settle_63 C hE t_v0 ih h
        · have h := it2 h c10
          refine jB C [(.aload_n 0, 1, 0)] 50 [(0, .ref (b + v0)), (1, .int v1)] [.ref (b + v0)] (by decide +kernel) rfl rfl ?_
          obtain ⟨a11, e_a11, h⟩ := h
          refine jGetR C 53 (by decide +kernel : decode cX11_settle 50 = .ok (.getfield 54, 3)) rfl t_v0 kX11 28 (by decide) rfl rfl (by decide) wd_1182 e_a11 rfl (fun t_a11 => ?_)
          refine jB C [(.aload_n 0, 1, 0)] 54 [(0, .ref (b + v0)), (1, .int v1)] [.ref (b + v0), .ref (b + a11)] (by decide +kernel) rfl rfl ?_
          refine jGetI C 57 (by decide +kernel : decode cX11_settle 54 = .ok (.getfield 311, 3)) rfl t_v0 kX11 30 (by decide) rfl rfl (by decide) wd_1184 ?_
          obtain ⟨y12, h⟩ := h
          refine jIald C 58 (by decide +kernel : decode cX11_settle 57 = .ok (.iaload, 1)) rfl t_a11 y12 ?_
          refine jB C [(.bipush 30, 2, 30)] 60 [(0, .ref (b + v0)), (1, .int v1)] [.int 30, .int (S7.1 a11 (S7.1 v0 30).toNatClampNeg)] (by decide +kernel) rfl rfl ?_
          refine jIcmp_ne C 63 84 (by decide +kernel : decode cX11_settle 60 = .ok (.if_icmp .ne 24, 3)) rfl rfl (fun c13 => ?_) (fun c13 => ?_)
          · have h := it2 h c13
            refine jB C [(.aload_n 0, 1, 0), (.aload_n 0, 1, 0)] 86 [(0, .ref (b + v0)), (1, .int v1)] [.ref (b + v0), .ref (b + v0)] (by decide +kernel) rfl rfl ?_
            obtain ⟨a14, e_a14, h⟩ := h
            refine jGetR C 89 (by decide +kernel : decode cX11_settle 86 = .ok (.getfield 54, 3)) rfl t_v0 kX11 28 (by decide) rfl rfl (by decide) wd_1182 e_a14 rfl (fun t_a14 => ?_)
            refine jB C [(.aload_n 0, 1, 0)] 90 [(0, .ref (b + v0)), (1, .int v1)] [.ref (b + v0), .ref (b + a14), .ref (b + v0)] (by decide +kernel) rfl rfl ?_
            refine jGetI C 93 (by decide +kernel : decode cX11_settle 90 = .ok (.getfield 311, 3)) rfl t_v0 kX11 30 (by decide) rfl rfl (by decide) wd_1184 ?_
            obtain ⟨y15, h⟩ := h
            refine jIald C 94 (by decide +kernel : decode cX11_settle 93 = .ok (.iaload, 1)) rfl t_a14 y15 ?_
            refine jB C [(.iconst 0, 1, 0)] 95 [(0, .ref (b + v0)), (1, .int v1)] [.int 0, .int (S7.1 a14 (S7.1 v0 30).toNatClampNeg), .ref (b + v0)] (by decide +kernel) rfl rfl ?_
            refine jcV_V C 98 (rest := []) (ok_X11_emit t_v0 h) (by decide +kernel : decode cX11_settle 95 = .ok (.invokevirtual 317, 3)) rfl wd_1588 wd_1590 wp_134 wd_12 wd_1591 ⟨rfl, rfl⟩ hd_X11_emit ⟨Nat.le_of_ble_eq_true rfl, Nat.le_of_ble_eq_true rfl⟩ t_v0 kX11 (by decide) rfl rfl rfl (Nat.le_of_ble_eq_true rfl) ⟨Nat.zero_le _, Nat.zero_le _⟩ (fun S16 h => ?_)
            refine jGoto C 0 (by decide +kernel : decode cX11_settle 98 = .ok (.goto (-98), 3)) rfl ?_
            refine jSub [0, 1] rfl ?_
            exact ih S16 h
          · have h := it1 h c13
            refine jSub [0, 1] rfl ?_
            exact j_X11_settle_63 C hE t_v0 ih h
theorem j_X11_settle_0 {p : Program} {l : Launch} {e : Env} {s : State} {m : MethodId} {args : Array Value} {below : List Frame} {meth : Method} {c : Code} {b : Nat} {D : va_G} {cy : Nat → ClassId} {G : Gm} {v0 : Nat} {v1 : Int32} {S : St} {Q : St → Prop} (C : CX p s m args meth c b D cy cX11_settle RX11 2 none) (hE : s.heap.size + 0 ≤ b + G.2.2) (t_v0 : ok G 10 v0) (h : f_X11_settle_0 G v0 v1 Q S) : J p l e rm_X11_settle s m args below meth c b D cy 2 (zV b D cy below args s G Q) 0 0 G S 0 [(0, .ref (b + v0)), (1, .int v1)] [] := by
  obtain ⟨n, h⟩ := h
  exact j_X11_settle_0_n C hE t_v0 n S h
theorem ok_X11_settle {G : Gm} {v0 : Nat} {v1 : Int32} {S : St} {Q : St → Prop} (t_v0 : ok G 10 v0) (h : f_X11_settle G v0 v1 Q S) : MT yX11_settle cX11_settle 2 none rm_X11_settle 0 0 (fun b => [.ref (b + v0), .int v1]) G S (QV (fun G1 S1 => G1 = G ∧ Q S1)) := MT.ofJ (by decide) (fun b => [(0, .ref (b + v0)), (1, .int v1)]) (fun b => rfl) (fun b => Nat.le_of_ble_eq_true rfl) (fun l b D cy p e s m below meth c C hE hn => j_X11_settle_0 C hE t_v0 h)
theorem hd_X11_settle : yX11_settle.cls ≠ "java/lang/invoke/MethodHandle" ∧ yX11_settle.cls ≠ "java/lang/invoke/VarHandle" ∧ (parseMethodDescriptor yX11_settle.desc).map (fun d => d.parameters.length) = some 1 := by decide +kernel
def f_X11_push (G : Gm) (v0 : Nat) (v1 : Int32) (v2 : Int32) (Q : St → Prop) (S : St) : Prop :=
  (∃ a1, S.2.2 v0 28 = some a1 ∧ (vp_in (S.1 v0 30) (G.2.1 a1) ∧ ∀ S3, S3 = uI S a1 (S.1 v0 30).toNatClampNeg v1 → (∃ a4, S3.2.2 v0 29 = some a4 ∧ (vp_in (S3.1 v0 30) (G.2.1 a4) ∧ ∀ S6, S6 = uI S3 a4 (S3.1 v0 30).toNatClampNeg v2 → (∀ S7, S7 = uI S6 v0 30 ((S6.1 v0 30) + 1) → Q S7)))))
abbrev rm_X11_push : Room := { frames := 0, cells := 0, slots := 0, locals := 0 }
set_option maxHeartbeats 4000000 in
set_option maxRecDepth 100000 in
theorem j_X11_push {p : Program} {l : Launch} {e : Env} {s : State} {m : MethodId} {args : Array Value} {below : List Frame} {meth : Method} {c : Code} {b : Nat} {D : va_G} {cy : Nat → ClassId} {G : Gm} {v0 : Nat} {v1 : Int32} {v2 : Int32} {S : St} {Q : St → Prop} (C : CX p s m args meth c b D cy cX11_push RX11 3 none) (hE : s.heap.size + 0 ≤ b + G.2.2) (t_v0 : ok G 10 v0) (h : f_X11_push G v0 v1 v2 Q S) : J p l e rm_X11_push s m args below meth c b D cy 3 (zV b D cy below args s G Q) 0 0 G S 0 [(0, .ref (b + v0)), (1, .int v1), (2, .int v2)] [] := by
  unfold f_X11_push at h
  refine jB C [(.aload_n 0, 1, 0)] 1 [(0, .ref (b + v0)), (1, .int v1), (2, .int v2)] [.ref (b + v0)] (by decide +kernel) rfl rfl ?_
  obtain ⟨a1, e_a1, h⟩ := h
  refine jGetR C 4 (by decide +kernel : decode cX11_push 1 = .ok (.getfield 54, 3)) rfl t_v0 kX11 28 (by decide) rfl rfl (by decide) wd_1182 e_a1 rfl (fun t_a1 => ?_)
  refine jB C [(.aload_n 0, 1, 0)] 5 [(0, .ref (b + v0)), (1, .int v1), (2, .int v2)] [.ref (b + v0), .ref (b + a1)] (by decide +kernel) rfl rfl ?_
  refine jGetI C 8 (by decide +kernel : decode cX11_push 5 = .ok (.getfield 311, 3)) rfl t_v0 kX11 30 (by decide) rfl rfl (by decide) wd_1184 ?_
  refine jB C [(.iload_n 1, 1, 0)] 9 [(0, .ref (b + v0)), (1, .int v1), (2, .int v2)] [.int v1, .int (S.1 v0 30), .ref (b + a1)] (by decide +kernel) rfl rfl ?_
  obtain ⟨y2, h⟩ := h
  refine jIast C 10 (by decide +kernel : decode cX11_push 9 = .ok (.iastore, 1)) rfl hE t_a1 y2 ?_
  refine jTopS (fun S3 e_S3 => ?_)
  have h := h S3 e_S3
  refine jB C [(.aload_n 0, 1, 0)] 11 [(0, .ref (b + v0)), (1, .int v1), (2, .int v2)] [.ref (b + v0)] (by decide +kernel) rfl rfl ?_
  obtain ⟨a4, e_a4, h⟩ := h
  refine jGetR C 14 (by decide +kernel : decode cX11_push 11 = .ok (.getfield 57, 3)) rfl t_v0 kX11 29 (by decide) rfl rfl (by decide) wd_1183 e_a4 rfl (fun t_a4 => ?_)
  refine jB C [(.aload_n 0, 1, 0)] 15 [(0, .ref (b + v0)), (1, .int v1), (2, .int v2)] [.ref (b + v0), .ref (b + a4)] (by decide +kernel) rfl rfl ?_
  refine jGetI C 18 (by decide +kernel : decode cX11_push 15 = .ok (.getfield 311, 3)) rfl t_v0 kX11 30 (by decide) rfl rfl (by decide) wd_1184 ?_
  refine jB C [(.iload_n 2, 1, 0)] 19 [(0, .ref (b + v0)), (1, .int v1), (2, .int v2)] [.int v2, .int (S3.1 v0 30), .ref (b + a4)] (by decide +kernel) rfl rfl ?_
  obtain ⟨y5, h⟩ := h
  refine jIast C 20 (by decide +kernel : decode cX11_push 19 = .ok (.iastore, 1)) rfl hE t_a4 y5 ?_
  refine jTopS (fun S6 e_S6 => ?_)
  have h := h S6 e_S6
  refine jB C [(.aload_n 0, 1, 0), (.dup, 1, 0)] 22 [(0, .ref (b + v0)), (1, .int v1), (2, .int v2)] [.ref (b + v0), .ref (b + v0)] (by decide +kernel) rfl rfl ?_
  refine jGetI C 25 (by decide +kernel : decode cX11_push 22 = .ok (.getfield 311, 3)) rfl t_v0 kX11 30 (by decide) rfl rfl (by decide) wd_1184 ?_
  refine jB C [(.iconst 1, 1, 1), (.iadd, 1, 0)] 27 [(0, .ref (b + v0)), (1, .int v1), (2, .int v2)] [.int ((S6.1 v0 30) + 1), .ref (b + v0)] (by decide +kernel) rfl rfl ?_
  refine jPutI C 30 (by decide +kernel : decode cX11_push 27 = .ok (.putfield 311, 3)) rfl hE t_v0 kX11 30 (by decide) rfl rfl (by decide) rfl wd_1184 rfl rfl rfl ?_
  refine jTopS (fun S7 e_S7 => ?_)
  have h := h S7 e_S7
  exact jRetV C (by decide +kernel : decode cX11_push 30 = .ok (.return_, 1)) (Nat.le_refl _) (Nat.le_refl _) ⟨rfl, h⟩
theorem ok_X11_push {G : Gm} {v0 : Nat} {v1 : Int32} {v2 : Int32} {S : St} {Q : St → Prop} (t_v0 : ok G 10 v0) (h : f_X11_push G v0 v1 v2 Q S) : MT yX11_push cX11_push 3 none rm_X11_push 0 0 (fun b => [.ref (b + v0), .int v1, .int v2]) G S (QV (fun G1 S1 => G1 = G ∧ Q S1)) := MT.ofJ (by decide) (fun b => [(0, .ref (b + v0)), (1, .int v1), (2, .int v2)]) (fun b => rfl) (fun b => Nat.le_of_ble_eq_true rfl) (fun l b D cy p e s m below meth c C hE hn => j_X11_push C hE t_v0 h)
theorem hd_X11_push : yX11_push.cls ≠ "java/lang/invoke/MethodHandle" ∧ yX11_push.cls ≠ "java/lang/invoke/VarHandle" ∧ (parseMethodDescriptor yX11_push.desc).map (fun d => d.parameters.length) = some 2 := by decide +kernel
def f_X11_inner_4_n (G : Gm) (v0 : Nat) (Q : Int32 → St → Prop) : Nat → Int32 → Int32 → St → Prop
  | 0, _, _, _ => False
  | n + 1, v1, v2, S => (if (S.1 v0 30) ≤ v2 then Q v1 S else (∃ a2, S.2.2 v0 28 = some a2 ∧ (vp_in v2 (G.2.1 a2) ∧ (if (S.1 a2 v2.toNatClampNeg) < 31 then (f_X11_inner_4_n G v0 Q n) v1 (v2 + 1) S else (∃ a5, S.2.2 v0 28 = some a5 ∧ (vp_in v2 (G.2.1 a5) ∧ (∀ x7 : Int32, x7 = S.1 a5 v2.toNatClampNeg → (f_X11_inner_4_n G v0 Q n) x7 (v2 + 1) S)))))))
def f_X11_inner_4 (G : Gm) (v0 : Nat) (Q : Int32 → St → Prop) (v1 : Int32) (v2 : Int32) (S : St) : Prop := ∃ n, f_X11_inner_4_n G v0 Q n v1 v2 S
def f_X11_inner (G : Gm) (v0 : Nat) (Q : Int32 → St → Prop) (S : St) : Prop :=
  f_X11_inner_4 G v0 Q (-1) 0 S
abbrev rm_X11_inner : Room := { frames := 0, cells := 0, slots := 0, locals := 0 }
set_option maxHeartbeats 4000000 in
set_option maxRecDepth 100000 in
theorem j_X11_inner_4_n {p : Program} {l : Launch} {e : Env} {s : State} {m : MethodId} {args : Array Value} {below : List Frame} {meth : Method} {c : Code} {b : Nat} {D : va_G} {cy : Nat → ClassId} {G : Gm} {v0 : Nat} {Q : Int32 → St → Prop} (C : CX p s m args meth c b D cy cX11_inner RX11 3 (some .int)) (hE : s.heap.size + 0 ≤ b + G.2.2) (t_v0 : ok G 10 v0) : ∀ n (v1 : Int32) (v2 : Int32) S, f_X11_inner_4_n G v0 Q n v1 v2 S → J p l e rm_X11_inner s m args below meth c b D cy 3 (zI b D cy below args s G Q) 0 0 G S 4 [(0, .ref (b + v0)), (1, .int v1), (2, .int v2)] [] := by
  intro n
  induction n with
  | zero => intro v1 v2 S h; exact h.elim
  | succ n ih =>
    intro v1 v2 S h
    unfold f_X11_inner_4_n at h
    refine jB C [(.iload_n 2, 1, 0), (.aload_n 0, 1, 0)] 6 [(0, .ref (b + v0)), (1, .int v1), (2, .int v2)] [.ref (b + v0), .int v2] (by decide +kernel) rfl rfl ?_
    refine jGetI C 9 (by decide +kernel : decode cX11_inner 6 = .ok (.getfield 311, 3)) rfl t_v0 kX11 30 (by decide) rfl rfl (by decide) wd_1184 ?_
    refine jIcmp_ge C 12 40 (by decide +kernel : decode cX11_inner 9 = .ok (.if_icmp .ge 31, 3)) rfl rfl (fun c1 => ?_) (fun c1 => ?_)
    · have h := it1 h c1
      refine jB C [(.iload_n 1, 1, 0)] 41 [(0, .ref (b + v0)), (1, .int v1), (2, .int v2)] [.int v1] (by decide +kernel) rfl rfl ?_
      exact jRetI C (by decide +kernel : decode cX11_inner 41 = .ok (.ireturn, 1)) (Nat.le_refl _) (Nat.le_refl _) ⟨rfl, h⟩
    · have h := it2 h c1
      refine jB C [(.aload_n 0, 1, 0)] 13 [(0, .ref (b + v0)), (1, .int v1), (2, .int v2)] [.ref (b + v0)] (by decide +kernel) rfl rfl ?_
      obtain ⟨a2, e_a2, h⟩ := h
      refine jGetR C 16 (by decide +kernel : decode cX11_inner 13 = .ok (.getfield 54, 3)) rfl t_v0 kX11 28 (by decide) rfl rfl (by decide) wd_1182 e_a2 rfl (fun t_a2 => ?_)
      refine jB C [(.iload_n 2, 1, 0)] 17 [(0, .ref (b + v0)), (1, .int v1), (2, .int v2)] [.int v2, .ref (b + a2)] (by decide +kernel) rfl rfl ?_
      obtain ⟨y3, h⟩ := h
      refine jIald C 18 (by decide +kernel : decode cX11_inner 17 = .ok (.iaload, 1)) rfl t_a2 y3 ?_
      refine jB C [(.bipush 31, 2, 31)] 20 [(0, .ref (b + v0)), (1, .int v1), (2, .int v2)] [.int 31, .int (S.1 a2 v2.toNatClampNeg)] (by decide +kernel) rfl rfl ?_
      refine jIcmp_lt C 23 32 (by decide +kernel : decode cX11_inner 20 = .ok (.if_icmp .lt 12, 3)) rfl rfl (fun c4 => ?_) (fun c4 => ?_)
      · have h := it1 h c4
        refine jB C [(.iload_n 1, 1, 0), (.istore_n 1, 1, 0), (.iinc 2 1, 3, 1)] 37 [(2, .int (v2 + 1)), (1, .int v1), (0, .ref (b + v0))] [] (by decide +kernel) rfl rfl ?_
        refine jGoto C 4 (by decide +kernel : decode cX11_inner 37 = .ok (.goto (-33), 3)) rfl ?_
        refine jSub [2, 1, 0] rfl ?_
        exact ih v1 (v2 + 1) S h
      · have h := it2 h c4
        refine jB C [(.aload_n 0, 1, 0)] 24 [(0, .ref (b + v0)), (1, .int v1), (2, .int v2)] [.ref (b + v0)] (by decide +kernel) rfl rfl ?_
        obtain ⟨a5, e_a5, h⟩ := h
        refine jGetR C 27 (by decide +kernel : decode cX11_inner 24 = .ok (.getfield 54, 3)) rfl t_v0 kX11 28 (by decide) rfl rfl (by decide) wd_1182 e_a5 rfl (fun t_a5 => ?_)
        refine jB C [(.iload_n 2, 1, 0)] 28 [(0, .ref (b + v0)), (1, .int v1), (2, .int v2)] [.int v2, .ref (b + a5)] (by decide +kernel) rfl rfl ?_
        obtain ⟨y6, h⟩ := h
        refine jIald C 29 (by decide +kernel : decode cX11_inner 28 = .ok (.iaload, 1)) rfl t_a5 y6 ?_
        refine jGoto C 33 (by decide +kernel : decode cX11_inner 29 = .ok (.goto 4, 3)) rfl ?_
        refine jTopI (fun x7 e_x7 => ?_)
        have h := h x7 e_x7
        refine jB C [(.istore_n 1, 1, 0), (.iinc 2 1, 3, 1)] 37 [(2, .int (v2 + 1)), (1, .int x7), (0, .ref (b + v0))] [] (by decide +kernel) rfl rfl ?_
        refine jGoto C 4 (by decide +kernel : decode cX11_inner 37 = .ok (.goto (-33), 3)) rfl ?_
        refine jSub [2, 1, 0] rfl ?_
        exact ih x7 (v2 + 1) S h
theorem j_X11_inner_4 {p : Program} {l : Launch} {e : Env} {s : State} {m : MethodId} {args : Array Value} {below : List Frame} {meth : Method} {c : Code} {b : Nat} {D : va_G} {cy : Nat → ClassId} {G : Gm} {v0 : Nat} {v1 : Int32} {v2 : Int32} {S : St} {Q : Int32 → St → Prop} (C : CX p s m args meth c b D cy cX11_inner RX11 3 (some .int)) (hE : s.heap.size + 0 ≤ b + G.2.2) (t_v0 : ok G 10 v0) (h : f_X11_inner_4 G v0 Q v1 v2 S) : J p l e rm_X11_inner s m args below meth c b D cy 3 (zI b D cy below args s G Q) 0 0 G S 4 [(0, .ref (b + v0)), (1, .int v1), (2, .int v2)] [] := by
  obtain ⟨n, h⟩ := h
  exact j_X11_inner_4_n C hE t_v0 n v1 v2 S h
set_option maxHeartbeats 4000000 in
set_option maxRecDepth 100000 in
theorem j_X11_inner {p : Program} {l : Launch} {e : Env} {s : State} {m : MethodId} {args : Array Value} {below : List Frame} {meth : Method} {c : Code} {b : Nat} {D : va_G} {cy : Nat → ClassId} {G : Gm} {v0 : Nat} {S : St} {Q : Int32 → St → Prop} (C : CX p s m args meth c b D cy cX11_inner RX11 3 (some .int)) (hE : s.heap.size + 0 ≤ b + G.2.2) (t_v0 : ok G 10 v0) (h : f_X11_inner G v0 Q S) : J p l e rm_X11_inner s m args below meth c b D cy 3 (zI b D cy below args s G Q) 0 0 G S 0 [(0, .ref (b + v0))] [] := by
  unfold f_X11_inner at h
  refine jB C [(.iconst (-1), 1, (-1)), (.istore_n 1, 1, 0), (.iconst 0, 1, 0), (.istore_n 2, 1, 0)] 4 [(2, .int 0), (1, .int (-1)), (0, .ref (b + v0))] [] (by decide +kernel) rfl rfl ?_
  refine jSub [2, 1, 0] rfl ?_
  exact j_X11_inner_4 C hE t_v0 h
theorem ok_X11_inner {G : Gm} {v0 : Nat} {S : St} {Q : Int32 → St → Prop} (t_v0 : ok G 10 v0) (h : f_X11_inner G v0 Q S) : MT yX11_inner cX11_inner 3 (some .int) rm_X11_inner 0 0 (fun b => [.ref (b + v0)]) G S (QI (fun r G1 S1 => G1 = G ∧ Q r S1)) := MT.ofJ (by decide) (fun b => [(0, .ref (b + v0))]) (fun b => rfl) (fun b => Nat.le_of_ble_eq_true rfl) (fun l b D cy p e s m below meth c C hE hn => j_X11_inner C hE t_v0 h)
theorem hd_X11_inner : yX11_inner.cls ≠ "java/lang/invoke/MethodHandle" ∧ yX11_inner.cls ≠ "java/lang/invoke/VarHandle" ∧ (parseMethodDescriptor yX11_inner.desc).map (fun d => d.parameters.length) = some 0 := by decide +kernel
def f_X11_must_24 (G : Gm) (v0 : Nat) (Q : St → Prop) (S : St) : Prop :=
  (if (S.1 v0 20) = 0 then f_X11_next G v0 (fun S2 => Q S2) S else Q S)
def f_X11_must (G : Gm) (v0 : Nat) (v1 : Int32) (Q : St → Prop) (S : St) : Prop :=
  (if (S.1 v0 20) = 0 then (if v1 = 0 then (∀ S3, S3 = uI S v0 20 1 → (∀ S4, S4 = uI S3 v0 19 (S3.1 v0 15) → f_X11_must_24 G v0 Q S4)) else f_X11_must_24 G v0 Q S) else f_X11_must_24 G v0 Q S)
abbrev rm_X11_must : Room := { frames := 2, cells := 0, slots := 0, locals := 40 }
set_option maxHeartbeats 4000000 in
set_option maxRecDepth 100000 in
theorem j_X11_must_24 {p : Program} {l : Launch} {e : Env} {s : State} {m : MethodId} {args : Array Value} {below : List Frame} {meth : Method} {c : Code} {b : Nat} {D : va_G} {cy : Nat → ClassId} {G : Gm} {v0 : Nat} {S : St} {Q : St → Prop} (C : CX p s m args meth c b D cy cX11_must RX11 2 none) (hE : s.heap.size + 0 ≤ b + G.2.2) (t_v0 : ok G 10 v0) (h : f_X11_must_24 G v0 Q S) : J p l e rm_X11_must s m args below meth c b D cy 2 (zV b D cy below args s G Q) 0 0 G S 24 [(0, .ref (b + v0))] [] := by
  unfold f_X11_must_24 at h
  refine jB C [(.aload_n 0, 1, 0)] 25 [(0, .ref (b + v0))] [.ref (b + v0)] (by decide +kernel) rfl rfl ?_
  refine jGetI C 28 (by decide +kernel : decode cX11_must 25 = .ok (.getfield 271, 3)) rfl t_v0 kX11 20 (by decide) rfl rfl (by decide) wd_1174 ?_
  refine jIf_ne C 31 35 (by decide +kernel : decode cX11_must 28 = .ok (.ifCond .ne 7, 3)) rfl rfl (fun c1 => ?_) (fun c1 => ?_)
  · have h := it2 h c1
    exact jRetV C (by decide +kernel : decode cX11_must 35 = .ok (.return_, 1)) (Nat.le_refl _) (Nat.le_refl _) ⟨rfl, h⟩
  · have h := it1 h c1
    refine jB C [(.aload_n 0, 1, 0)] 32 [(0, .ref (b + v0))] [.ref (b + v0)] (by decide +kernel) rfl rfl ?_
    refine jcV_V C 35 (rest := []) (ok_X11_next t_v0 h) (by decide +kernel : decode cX11_must 32 = .ok (.invokevirtual 275, 3)) rfl wd_1524 wd_1526 wp_121 wd_12 wd_1527 ⟨rfl, rfl⟩ hd_X11_next ⟨Nat.le_of_ble_eq_true rfl, Nat.le_of_ble_eq_true rfl⟩ t_v0 kX11 (by decide) rfl rfl rfl (Nat.le_of_ble_eq_true rfl) ⟨Nat.zero_le _, Nat.zero_le _⟩ (fun S2 h => ?_)
    exact jRetV C (by decide +kernel : decode cX11_must 35 = .ok (.return_, 1)) (Nat.le_refl _) (Nat.le_refl _) ⟨rfl, h⟩
set_option maxHeartbeats 4000000 in
set_option maxRecDepth 100000 in
theorem j_X11_must {p : Program} {l : Launch} {e : Env} {s : State} {m : MethodId} {args : Array Value} {below : List Frame} {meth : Method} {c : Code} {b : Nat} {D : va_G} {cy : Nat → ClassId} {G : Gm} {v0 : Nat} {v1 : Int32} {S : St} {Q : St → Prop} (C : CX p s m args meth c b D cy cX11_must RX11 2 none) (hE : s.heap.size + 0 ≤ b + G.2.2) (t_v0 : ok G 10 v0) (h : f_X11_must G v0 v1 Q S) : J p l e rm_X11_must s m args below meth c b D cy 2 (zV b D cy below args s G Q) 0 0 G S 0 [(0, .ref (b + v0)), (1, .int v1)] [] := by
  unfold f_X11_must at h
  refine jB C [(.aload_n 0, 1, 0)] 1 [(0, .ref (b + v0)), (1, .int v1)] [.ref (b + v0)] (by decide +kernel) rfl rfl ?_
  refine jGetI C 4 (by decide +kernel : decode cX11_must 1 = .ok (.getfield 271, 3)) rfl t_v0 kX11 20 (by decide) rfl rfl (by decide) wd_1174 ?_
  refine jIf_ne C 7 24 (by decide +kernel : decode cX11_must 4 = .ok (.ifCond .ne 20, 3)) rfl rfl (fun c1 => ?_) (fun c1 => ?_)
  · have h := it2 h c1
    refine jSub [0] rfl ?_
    exact j_X11_must_24 C hE t_v0 h
  · have h := it1 h c1
    refine jB C [(.iload_n 1, 1, 0)] 8 [(0, .ref (b + v0)), (1, .int v1)] [.int v1] (by decide +kernel) rfl rfl ?_
    refine jIf_ne C 11 24 (by decide +kernel : decode cX11_must 8 = .ok (.ifCond .ne 16, 3)) rfl rfl (fun c2 => ?_) (fun c2 => ?_)
    · have h := it2 h c2
      refine jSub [0] rfl ?_
      exact j_X11_must_24 C hE t_v0 h
    · have h := it1 h c2
      refine jB C [(.aload_n 0, 1, 0), (.iconst 1, 1, 1)] 13 [(0, .ref (b + v0)), (1, .int v1)] [.int 1, .ref (b + v0)] (by decide +kernel) rfl rfl ?_
      refine jPutI C 16 (by decide +kernel : decode cX11_must 13 = .ok (.putfield 271, 3)) rfl hE t_v0 kX11 20 (by decide) rfl rfl (by decide) rfl wd_1174 rfl (by decide) (by decide) ?_
      refine jTopS (fun S3 e_S3 => ?_)
      have h := h S3 e_S3
      refine jB C [(.aload_n 0, 1, 0), (.aload_n 0, 1, 0)] 18 [(0, .ref (b + v0)), (1, .int v1)] [.ref (b + v0), .ref (b + v0)] (by decide +kernel) rfl rfl ?_
      refine jGetI C 21 (by decide +kernel : decode cX11_must 18 = .ok (.getfield 278, 3)) rfl t_v0 kX11 15 (by decide) rfl rfl (by decide) wd_1169 ?_
      refine jPutI C 24 (by decide +kernel : decode cX11_must 21 = .ok (.putfield 41, 3)) rfl hE t_v0 kX11 19 (by decide) rfl rfl (by decide) rfl wd_1173 rfl rfl rfl ?_
      refine jTopS (fun S4 e_S4 => ?_)
      have h := h S4 e_S4
      refine jSub [0] rfl ?_
      exact j_X11_must_24 C hE t_v0 h
theorem ok_X11_must {G : Gm} {v0 : Nat} {v1 : Int32} {S : St} {Q : St → Prop} (t_v0 : ok G 10 v0) (h : f_X11_must G v0 v1 Q S) : MT yX11_must cX11_must 2 none rm_X11_must 0 0 (fun b => [.ref (b + v0), .int v1]) G S (QV (fun G1 S1 => G1 = G ∧ Q S1)) := MT.ofJ (by decide) (fun b => [(0, .ref (b + v0)), (1, .int v1)]) (fun b => rfl) (fun b => Nat.le_of_ble_eq_true rfl) (fun l b D cy p e s m below meth c C hE hn => j_X11_must C hE t_v0 h)
theorem hd_X11_must : yX11_must.cls ≠ "java/lang/invoke/MethodHandle" ∧ yX11_must.cls ≠ "java/lang/invoke/VarHandle" ∧ (parseMethodDescriptor yX11_must.desc).map (fun d => d.parameters.length) = some 1 := by decide +kernel
def f_X11_isCompared_36 (G : Gm) (v0 : Nat) (v1 : Int32) (Q : Int32 → St → Prop) (S : St) : Prop :=
  (if v1 < 0 then Q 0 S else (∃ a2, S.2.2 v0 28 = some a2 ∧ (vp_in v1 (G.2.1 a2) ∧ f_X11_in G ((S.1 a2 v1.toNatClampNeg).toInt64) 25 27 (fun r5 S4 => (if r5 = 0 then Q 0 S4 else Q 1 S4)) S)))
def f_X11_isCompared_7_n (G : Gm) (v0 : Nat) (Q : Int32 → St → Prop) : Nat → Int32 → St → Prop
  | 0, _, _ => False
  | n + 1, v1, S => (if v1 < 0 then f_X11_isCompared_36 G v0 v1 Q S else (∃ a2, S.2.2 v0 28 = some a2 ∧ (vp_in v1 (G.2.1 a2) ∧ f_X11_in G ((S.1 a2 v1.toNatClampNeg).toInt64) 20 24 (fun r5 S4 => (if r5 = 0 then f_X11_isCompared_36 G v0 v1 Q S4 else (f_X11_isCompared_7_n G v0 Q n) (v1 + (-1)) S4)) S)))
def f_X11_isCompared_7 (G : Gm) (v0 : Nat) (Q : Int32 → St → Prop) (v1 : Int32) (S : St) : Prop := ∃ n, f_X11_isCompared_7_n G v0 Q n v1 S
def f_X11_isCompared (G : Gm) (v0 : Nat) (Q : Int32 → St → Prop) (S : St) : Prop :=
  (∀ x1 : Int32, x1 = (S.1 v0 30) - 1 → f_X11_isCompared_7 G v0 Q x1 S)
abbrev rm_X11_isCompared : Room := { frames := 1, cells := 0, slots := 0, locals := 25 }
set_option maxHeartbeats 4000000 in
set_option maxRecDepth 100000 in
theorem j_X11_isCompared_36 {p : Program} {l : Launch} {e : Env} {s : State} {m : MethodId} {args : Array Value} {below : List Frame} {meth : Method} {c : Code} {b : Nat} {D : va_G} {cy : Nat → ClassId} {G : Gm} {v0 : Nat} {v1 : Int32} {S : St} {Q : Int32 → St → Prop} (C : CX p s m args meth c b D cy cX11_isCompared RX11 2 (some .boolean)) (hE : s.heap.size + 0 ≤ b + G.2.2) (t_v0 : ok G 10 v0) (h : f_X11_isCompared_36 G v0 v1 Q S) : J p l e rm_X11_isCompared s m args below meth c b D cy 2 (zI b D cy below args s G Q) 0 0 G S 36 [(0, .ref (b + v0)), (1, .int v1)] [] := by
  unfold f_X11_isCompared_36 at h
  refine jB C [(.iload_n 1, 1, 0)] 37 [(0, .ref (b + v0)), (1, .int v1)] [.int v1] (by decide +kernel) rfl rfl ?_
  refine jIf_lt C 40 63 (by decide +kernel : decode cX11_isCompared 37 = .ok (.ifCond .lt 26, 3)) rfl rfl (fun c1 => ?_) (fun c1 => ?_)
  · have h := it1 h c1
    refine jB C [(.iconst 0, 1, 0)] 64 [(0, .ref (b + v0)), (1, .int v1)] [.int 0] (by decide +kernel) rfl rfl ?_
    exact jRetZ C (by decide +kernel : decode cX11_isCompared 64 = .ok (.ireturn, 1)) (Nat.le_refl _) (Nat.le_refl _) (by decide) ⟨rfl, h⟩
  · have h := it2 h c1
    refine jB C [(.aload_n 0, 1, 0)] 41 [(0, .ref (b + v0)), (1, .int v1)] [.ref (b + v0)] (by decide +kernel) rfl rfl ?_
    obtain ⟨a2, e_a2, h⟩ := h
    refine jGetR C 44 (by decide +kernel : decode cX11_isCompared 41 = .ok (.getfield 54, 3)) rfl t_v0 kX11 28 (by decide) rfl rfl (by decide) wd_1182 e_a2 rfl (fun t_a2 => ?_)
    refine jB C [(.iload_n 1, 1, 0)] 45 [(0, .ref (b + v0)), (1, .int v1)] [.int v1, .ref (b + a2)] (by decide +kernel) rfl rfl ?_
    obtain ⟨y3, h⟩ := h
    refine jIald C 46 (by decide +kernel : decode cX11_isCompared 45 = .ok (.iaload, 1)) rfl t_a2 y3 ?_
    refine jB C [(.i2l, 1, 0)] 47 [(0, .ref (b + v0)), (1, .int v1)] [.long ((S.1 a2 v1.toNatClampNeg).toInt64)] (by decide +kernel) rfl rfl ?_
    refine jLdc2 C 50 (by decide +kernel : decode cX11_isCompared 47 = .ok (.ldc2_w 324, 3)) rfl wd_1617 ?_
    refine jLdc2 C 53 (by decide +kernel : decode cX11_isCompared 50 = .ok (.ldc2_w 326, 3)) rfl wd_1618 ?_
    refine jcS_I C 56 (rest := []) (ok_X11_in h) (by decide +kernel : decode cX11_isCompared 53 = .ok (.invokestatic 185, 3)) rfl wd_1352 wd_1353 wd_12 wd_1354 ⟨rfl, rfl⟩ hd_X11_in ⟨Nat.le_of_ble_eq_true rfl, Nat.le_of_ble_eq_true rfl⟩ rfl rfl (Nat.le_of_ble_eq_true rfl) ⟨Nat.zero_le _, Nat.zero_le _⟩ (fun r5 S4 h => ?_)
    refine jIf_eq C 59 63 (by decide +kernel : decode cX11_isCompared 56 = .ok (.ifCond .eq 7, 3)) rfl rfl (fun c6 => ?_) (fun c6 => ?_)
    · have h := it1 h c6
      refine jB C [(.iconst 0, 1, 0)] 64 [(0, .ref (b + v0)), (1, .int v1)] [.int 0] (by decide +kernel) rfl rfl ?_
      exact jRetZ C (by decide +kernel : decode cX11_isCompared 64 = .ok (.ireturn, 1)) (Nat.le_refl _) (Nat.le_refl _) (by decide) ⟨rfl, h⟩
    · have h := it2 h c6
      refine jB C [(.iconst 1, 1, 1)] 60 [(0, .ref (b + v0)), (1, .int v1)] [.int 1] (by decide +kernel) rfl rfl ?_
      refine jGoto C 64 (by decide +kernel : decode cX11_isCompared 60 = .ok (.goto 4, 3)) rfl ?_
      exact jRetZ C (by decide +kernel : decode cX11_isCompared 64 = .ok (.ireturn, 1)) (Nat.le_refl _) (Nat.le_refl _) (by decide) ⟨rfl, h⟩
set_option maxHeartbeats 4000000 in
set_option maxRecDepth 100000 in
theorem j_X11_isCompared_7_n {p : Program} {l : Launch} {e : Env} {s : State} {m : MethodId} {args : Array Value} {below : List Frame} {meth : Method} {c : Code} {b : Nat} {D : va_G} {cy : Nat → ClassId} {G : Gm} {v0 : Nat} {Q : Int32 → St → Prop} (C : CX p s m args meth c b D cy cX11_isCompared RX11 2 (some .boolean)) (hE : s.heap.size + 0 ≤ b + G.2.2) (t_v0 : ok G 10 v0) : ∀ n (v1 : Int32) S, f_X11_isCompared_7_n G v0 Q n v1 S → J p l e rm_X11_isCompared s m args below meth c b D cy 2 (zI b D cy below args s G Q) 0 0 G S 7 [(0, .ref (b + v0)), (1, .int v1)] [] := by
  intro n
  induction n with
  | zero => intro v1 S h; exact h.elim
  | succ n ih =>
    intro v1 S h
    unfold f_X11_isCompared_7_n at h
    refine jB C [(.iload_n 1, 1, 0)] 8 [(0, .ref (b + v0)), (1, .int v1)] [.int v1] (by decide +kernel) rfl rfl ?_
    refine jIf_lt C 11 36 (by decide +kernel : decode cX11_isCompared 8 = .ok (.ifCond .lt 28, 3)) rfl rfl (fun c1 => ?_) (fun c1 => ?_)
    · have h := it1 h c1
      refine jSub [0, 1] rfl ?_
      exact j_X11_isCompared_36 C hE t_v0 h
    · have h := it2 h c1
      refine jB C [(.aload_n 0, 1, 0)] 12 [(0, .ref (b + v0)), (1, .int v1)] [.ref (b + v0)] (by decide +kernel) rfl rfl ?_
      obtain ⟨a2, e_a2, h⟩ := h
      refine jGetR C 15 (by decide +kernel : decode cX11_isCompared 12 = .ok (.getfield 54, 3)) rfl t_v0 kX11 28 (by decide) rfl rfl (by decide) wd_1182 e_a2 rfl (fun t_a2 => ?_)
      refine jB C [(.iload_n 1, 1, 0)] 16 [(0, .ref (b + v0)), (1, .int v1)] [.int v1, .ref (b + a2)] (by decide +kernel) rfl rfl ?_
      obtain ⟨y3, h⟩ := h
      refine jIald C 17 (by decide +kernel : decode cX11_isCompared 16 = .ok (.iaload, 1)) rfl t_a2 y3 ?_
      refine jB C [(.i2l, 1, 0)] 18 [(0, .ref (b + v0)), (1, .int v1)] [.long ((S.1 a2 v1.toNatClampNeg).toInt64)] (by decide +kernel) rfl rfl ?_
      refine jLdc2 C 21 (by decide +kernel : decode cX11_isCompared 18 = .ok (.ldc2_w 320, 3)) rfl wd_1615 ?_
      refine jLdc2 C 24 (by decide +kernel : decode cX11_isCompared 21 = .ok (.ldc2_w 322, 3)) rfl wd_1616 ?_
      refine jcS_I C 27 (rest := []) (ok_X11_in h) (by decide +kernel : decode cX11_isCompared 24 = .ok (.invokestatic 185, 3)) rfl wd_1352 wd_1353 wd_12 wd_1354 ⟨rfl, rfl⟩ hd_X11_in ⟨Nat.le_of_ble_eq_true rfl, Nat.le_of_ble_eq_true rfl⟩ rfl rfl (Nat.le_of_ble_eq_true rfl) ⟨Nat.zero_le _, Nat.zero_le _⟩ (fun r5 S4 h => ?_)
      refine jIf_eq C 30 36 (by decide +kernel : decode cX11_isCompared 27 = .ok (.ifCond .eq 9, 3)) rfl rfl (fun c6 => ?_) (fun c6 => ?_)
      · have h := it1 h c6
        refine jSub [0, 1] rfl ?_
        exact j_X11_isCompared_36 C hE t_v0 h
      · have h := it2 h c6
        refine jB C [(.iinc 1 (-1), 3, (-1))] 33 [(1, .int (v1 + (-1))), (0, .ref (b + v0))] [] (by decide +kernel) rfl rfl ?_
        refine jGoto C 7 (by decide +kernel : decode cX11_isCompared 33 = .ok (.goto (-26), 3)) rfl ?_
        refine jSub [1, 0] rfl ?_
        exact ih (v1 + (-1)) S4 h
theorem j_X11_isCompared_7 {p : Program} {l : Launch} {e : Env} {s : State} {m : MethodId} {args : Array Value} {below : List Frame} {meth : Method} {c : Code} {b : Nat} {D : va_G} {cy : Nat → ClassId} {G : Gm} {v0 : Nat} {v1 : Int32} {S : St} {Q : Int32 → St → Prop} (C : CX p s m args meth c b D cy cX11_isCompared RX11 2 (some .boolean)) (hE : s.heap.size + 0 ≤ b + G.2.2) (t_v0 : ok G 10 v0) (h : f_X11_isCompared_7 G v0 Q v1 S) : J p l e rm_X11_isCompared s m args below meth c b D cy 2 (zI b D cy below args s G Q) 0 0 G S 7 [(0, .ref (b + v0)), (1, .int v1)] [] := by
  obtain ⟨n, h⟩ := h
  exact j_X11_isCompared_7_n C hE t_v0 n v1 S h
set_option maxHeartbeats 4000000 in
set_option maxRecDepth 100000 in
theorem j_X11_isCompared {p : Program} {l : Launch} {e : Env} {s : State} {m : MethodId} {args : Array Value} {below : List Frame} {meth : Method} {c : Code} {b : Nat} {D : va_G} {cy : Nat → ClassId} {G : Gm} {v0 : Nat} {S : St} {Q : Int32 → St → Prop} (C : CX p s m args meth c b D cy cX11_isCompared RX11 2 (some .boolean)) (hE : s.heap.size + 0 ≤ b + G.2.2) (t_v0 : ok G 10 v0) (h : f_X11_isCompared G v0 Q S) : J p l e rm_X11_isCompared s m args below meth c b D cy 2 (zI b D cy below args s G Q) 0 0 G S 0 [(0, .ref (b + v0))] [] := by
  unfold f_X11_isCompared at h
  refine jB C [(.aload_n 0, 1, 0)] 1 [(0, .ref (b + v0))] [.ref (b + v0)] (by decide +kernel) rfl rfl ?_
  refine jGetI C 4 (by decide +kernel : decode cX11_isCompared 1 = .ok (.getfield 311, 3)) rfl t_v0 kX11 30 (by decide) rfl rfl (by decide) wd_1184 ?_
  refine jB C [(.iconst 1, 1, 1), (.isub, 1, 0)] 6 [(0, .ref (b + v0))] [.int ((S.1 v0 30) - 1)] (by decide +kernel) rfl rfl ?_
  refine jTopI (fun x1 e_x1 => ?_)
  have h := h x1 e_x1
  refine jB C [(.istore_n 1, 1, 0)] 7 [(1, .int x1), (0, .ref (b + v0))] [] (by decide +kernel) rfl rfl ?_
  refine jSub [1, 0] rfl ?_
  exact j_X11_isCompared_7 C hE t_v0 h
theorem ok_X11_isCompared {G : Gm} {v0 : Nat} {S : St} {Q : Int32 → St → Prop} (t_v0 : ok G 10 v0) (h : f_X11_isCompared G v0 Q S) : MT yX11_isCompared cX11_isCompared 2 (some .boolean) rm_X11_isCompared 0 0 (fun b => [.ref (b + v0)]) G S (QI (fun r G1 S1 => G1 = G ∧ Q r S1)) := MT.ofJ (by decide) (fun b => [(0, .ref (b + v0))]) (fun b => rfl) (fun b => Nat.le_of_ble_eq_true rfl) (fun l b D cy p e s m below meth c C hE hn => j_X11_isCompared C hE t_v0 h)
theorem hd_X11_isCompared : yX11_isCompared.cls ≠ "java/lang/invoke/MethodHandle" ∧ yX11_isCompared.cls ≠ "java/lang/invoke/VarHandle" ∧ (parseMethodDescriptor yX11_isCompared.desc).map (fun d => d.parameters.length) = some 0 := by decide +kernel
def f_X11_behindSum_224 (G : Gm) (v0 : Nat) (v2 : Int32) (u0 : Int32) (u1 : Nat) (Q : Int32 → St → Prop) (S : St) : Prop :=
  f_X11_must G u1 u0 (fun S1 => (if (S1.1 v0 20) = 0 then f_X11_settle G v0 5 (fun S3 => f_X11_push G v0 v2 0 (fun S4 => Q 1 S4) S3) S1 else Q 1 S1)) S
def f_X11_behindSum_219 (G : Gm) (v0 : Nat) (v2 : Int32) (u0 : Nat) (Q : Int32 → St → Prop) (S : St) : Prop :=
  f_X11_behindSum_224 G v0 v2 1 u0 Q S
def f_X11_behindSum_202 (G : Gm) (v0 : Nat) (u0 : Int32) (Q : Int32 → St → Prop) (S : St) : Prop :=
  (if u0 = 27 then f_X11_isSign G v0 61 (fun r3 S2 => (if r3 = 0 then f_X11_behindSum_224 G v0 u0 0 v0 Q S2 else f_X11_behindSum_219 G v0 u0 v0 Q S2)) S else f_X11_behindSum_219 G v0 u0 v0 Q S)
def f_X11_behindSum_163 (G : Gm) (v0 : Nat) (Q : Int32 → St → Prop) (S : St) : Prop :=
  f_X11_isCompared G v0 (fun r2 S1 => (if r2 = 0 then f_X11_isSign G v0 60 (fun r5 S4 => (if r5 = 0 then f_X11_isSign G v0 62 (fun r8 S7 => (if r8 = 0 then f_X11_behindSum_202 G v0 27 Q S7 else f_X11_behindSum_202 G v0 26 Q S7)) S4 else f_X11_behindSum_202 G v0 25 Q S4)) S1 else Q 2 S1)) S
def f_X11_behindSum_71 (G : Gm) (v0 : Nat) (v1 : Int32) (u0 : Int32) (Q : Int32 → St → Prop) (S : St) : Prop :=
  (if u0 = (-1) then f_X11_inner G v0 (fun r3 S2 => (if r3 = 32 then f_X11_isSign G v0 93 (fun r8 S7 => f_X11_must G v0 r8 (fun S9 => (if (S9.1 v0 20) = 0 then f_X11_settle G v0 5 (fun S11 => (∀ S12, S12 = uI S11 v0 30 ((S11.1 v0 30) - 1) → (∀ S13, S13 = uI S12 v0 31 ((S12.1 v0 31) - 1) → Q 3 S13))) S9 else Q 3 S9)) S7) S2 else (if r3 = (-1) then (if v1 = 0 then Q 4 S2 else f_X11_behindSum_163 G v0 Q S2) else f_X11_behindSum_163 G v0 Q S2))) S else f_X11_binds G u0 (fun r15 S14 => f_X11_settle G v0 r15 (fun S16 => f_X11_push G v0 u0 0 (fun S17 => f_X11_next G v0 (fun S18 => Q 1 S18) S17) S16) S14) S)
def f_X11_behindSum (G : Gm) (v0 : Nat) (v1 : Int32) (Q : Int32 → St → Prop) (S : St) : Prop :=
  f_X11_isSign G v0 43 (fun r2 S1 => (if r2 = 0 then f_X11_isSign G v0 45 (fun r5 S4 => (if r5 = 0 then f_X11_isSign G v0 42 (fun r8 S7 => (if r8 = 0 then f_X11_isSign G v0 47 (fun r11 S10 => (if r11 = 0 then f_X11_isSign G v0 37 (fun r14 S13 => (if r14 = 0 then f_X11_behindSum_71 G v0 v1 (-1) Q S13 else f_X11_behindSum_71 G v0 v1 24 Q S13)) S10 else f_X11_behindSum_71 G v0 v1 23 Q S10)) S7 else f_X11_behindSum_71 G v0 v1 22 Q S7)) S4 else f_X11_behindSum_71 G v0 v1 21 Q S4)) S1 else f_X11_behindSum_71 G v0 v1 20 Q S1)) S
abbrev rm_X11_behindSum : Room := { frames := 3, cells := 0, slots := 0, locals := 61 }
set_option maxHeartbeats 4000000 in
set_option maxRecDepth 100000 in
theorem j_X11_behindSum_224 {p : Program} {l : Launch} {e : Env} {s : State} {m : MethodId} {args : Array Value} {below : List Frame} {meth : Method} {c : Code} {b : Nat} {D : va_G} {cy : Nat → ClassId} {G : Gm} {v0 : Nat} {v2 : Int32} {u0 : Int32} {u1 : Nat} {S : St} {Q : Int32 → St → Prop} (C : CX p s m args meth c b D cy cX11_behindSum RX11 4 (some .int)) (hE : s.heap.size + 0 ≤ b + G.2.2) (t_v0 : ok G 10 v0) (t_u1 : ok G 10 u1) (h : f_X11_behindSum_224 G v0 v2 u0 u1 Q S) : J p l e rm_X11_behindSum s m args below meth c b D cy 4 (zI b D cy below args s G Q) 0 0 G S 224 [(0, .ref (b + v0)), (2, .int v2)] [.int u0, .ref (b + u1)] := by
  unfold f_X11_behindSum_224 at h
  refine jcV_V C 227 (rest := []) (ok_X11_must t_u1 h) (by decide +kernel : decode cX11_behindSum 224 = .ok (.invokevirtual 304, 3)) rfl wd_1546 wd_1548 wp_124 wd_12 wd_1549 ⟨rfl, rfl⟩ hd_X11_must ⟨Nat.le_of_ble_eq_true rfl, Nat.le_of_ble_eq_true rfl⟩ t_u1 kX11 (by decide) rfl rfl rfl (Nat.le_of_ble_eq_true rfl) ⟨Nat.zero_le _, Nat.zero_le _⟩ (fun S1 h => ?_)
  refine jB C [(.aload_n 0, 1, 0)] 228 [(0, .ref (b + v0)), (2, .int v2)] [.ref (b + v0)] (by decide +kernel) rfl rfl ?_
  refine jGetI C 231 (by decide +kernel : decode cX11_behindSum 228 = .ok (.getfield 271, 3)) rfl t_v0 kX11 20 (by decide) rfl rfl (by decide) wd_1174 ?_
  refine jIf_ne C 234 245 (by decide +kernel : decode cX11_behindSum 231 = .ok (.ifCond .ne 14, 3)) rfl rfl (fun c2 => ?_) (fun c2 => ?_)
  · have h := it2 h c2
    refine jB C [(.iconst 1, 1, 1)] 246 [(0, .ref (b + v0)), (2, .int v2)] [.int 1] (by decide +kernel) rfl rfl ?_
    exact jRetI C (by decide +kernel : decode cX11_behindSum 246 = .ok (.ireturn, 1)) (Nat.le_refl _) (Nat.le_refl _) ⟨rfl, h⟩
  · have h := it1 h c2
    refine jB C [(.aload_n 0, 1, 0), (.iconst 5, 1, 5)] 236 [(0, .ref (b + v0)), (2, .int v2)] [.int 5, .ref (b + v0)] (by decide +kernel) rfl rfl ?_
    refine jcV_V C 239 (rest := []) (ok_X11_settle t_v0 h) (by decide +kernel : decode cX11_behindSum 236 = .ok (.invokevirtual 372, 3)) rfl wd_1603 wd_1605 wp_137 wd_12 wd_1606 ⟨rfl, rfl⟩ hd_X11_settle ⟨Nat.le_of_ble_eq_true rfl, Nat.le_of_ble_eq_true rfl⟩ t_v0 kX11 (by decide) rfl rfl rfl (Nat.le_of_ble_eq_true rfl) ⟨Nat.zero_le _, Nat.zero_le _⟩ (fun S3 h => ?_)
    refine jB C [(.aload_n 0, 1, 0), (.iload_n 2, 1, 0), (.iconst 0, 1, 0)] 242 [(0, .ref (b + v0)), (2, .int v2)] [.int 0, .int v2, .ref (b + v0)] (by decide +kernel) rfl rfl ?_
    refine jcV_V C 245 (rest := []) (ok_X11_push t_v0 h) (by decide +kernel : decode cX11_behindSum 242 = .ok (.invokevirtual 335, 3)) rfl wd_1559 wd_1561 wp_127 wd_12 wd_1562 ⟨rfl, rfl⟩ hd_X11_push ⟨Nat.le_of_ble_eq_true rfl, Nat.le_of_ble_eq_true rfl⟩ t_v0 kX11 (by decide) rfl rfl rfl (Nat.le_of_ble_eq_true rfl) ⟨Nat.zero_le _, Nat.zero_le _⟩ (fun S4 h => ?_)
    refine jB C [(.iconst 1, 1, 1)] 246 [(0, .ref (b + v0)), (2, .int v2)] [.int 1] (by decide +kernel) rfl rfl ?_
    exact jRetI C (by decide +kernel : decode cX11_behindSum 246 = .ok (.ireturn, 1)) (Nat.le_refl _) (Nat.le_refl _) ⟨rfl, h⟩
set_option maxHeartbeats 4000000 in
set_option maxRecDepth 100000 in
theorem j_X11_behindSum_219 {p : Program} {l : Launch} {e : Env} {s : State} {m : MethodId} {args : Array Value} {below : List Frame} {meth : Method} {c : Code} {b : Nat} {D : va_G} {cy : Nat → ClassId} {G : Gm} {v0 : Nat} {v2 : Int32} {u0 : Nat} {S : St} {Q : Int32 → St → Prop} (C : CX p s m args meth c b D cy cX11_behindSum RX11 4 (some .int)) (hE : s.heap.size + 0 ≤ b + G.2.2) (t_v0 : ok G 10 v0) (t_u0 : ok G 10 u0) (h : f_X11_behindSum_219 G v0 v2 u0 Q S) : J p l e rm_X11_behindSum s m args below meth c b D cy 4 (zI b D cy below args s G Q) 0 0 G S 219 [(0, .ref (b + v0)), (2, .int v2)] [.ref (b + u0)] := by
  unfold f_X11_behindSum_219 at h
  refine jB C [(.iconst 1, 1, 1)] 220 [(0, .ref (b + v0)), (2, .int v2)] [.int 1, .ref (b + u0)] (by decide +kernel) rfl rfl ?_
  refine jGoto C 224 (by decide +kernel : decode cX11_behindSum 220 = .ok (.goto 4, 3)) rfl ?_
  refine jSub [0, 1] rfl ?_
  exact j_X11_behindSum_224 C hE t_v0 t_u0 h
set_option maxHeartbeats 4000000 in
set_option maxRecDepth 100000 in
theorem j_X11_behindSum_202 {p : Program} {l : Launch} {e : Env} {s : State} {m : MethodId} {args : Array Value} {below : List Frame} {meth : Method} {c : Code} {b : Nat} {D : va_G} {cy : Nat → ClassId} {G : Gm} {v0 : Nat} {u0 : Int32} {S : St} {Q : Int32 → St → Prop} (C : CX p s m args meth c b D cy cX11_behindSum RX11 4 (some .int)) (hE : s.heap.size + 0 ≤ b + G.2.2) (t_v0 : ok G 10 v0) (h : f_X11_behindSum_202 G v0 u0 Q S) : J p l e rm_X11_behindSum s m args below meth c b D cy 4 (zI b D cy below args s G Q) 0 0 G S 202 [(0, .ref (b + v0))] [.int u0] := by
  unfold f_X11_behindSum_202 at h
  refine jB C [(.istore_n 2, 1, 0), (.aload_n 0, 1, 0), (.iload_n 2, 1, 0), (.bipush 27, 2, 27)] 207 [(2, .int u0), (0, .ref (b + v0))] [.int 27, .int u0, .ref (b + v0)] (by decide +kernel) rfl rfl ?_
  refine jIcmp_ne C 210 219 (by decide +kernel : decode cX11_behindSum 207 = .ok (.if_icmp .ne 12, 3)) rfl rfl (fun c1 => ?_) (fun c1 => ?_)
  · have h := it2 h c1
    refine jSub [1, 0] rfl ?_
    exact j_X11_behindSum_219 C hE t_v0 t_v0 h
  · have h := it1 h c1
    refine jB C [(.aload_n 0, 1, 0), (.bipush 61, 2, 61)] 213 [(2, .int u0), (0, .ref (b + v0))] [.int 61, .ref (b + v0), .ref (b + v0)] (by decide +kernel) rfl rfl ?_
    refine jcV_I C 216 (rest := [.ref (b + v0)]) (ok_X11_isSign t_v0 h) (by decide +kernel : decode cX11_behindSum 213 = .ok (.invokevirtual 341, 3)) rfl wd_1563 wd_1565 wp_128 wd_12 wd_1566 ⟨rfl, rfl⟩ hd_X11_isSign ⟨Nat.le_of_ble_eq_true rfl, Nat.le_of_ble_eq_true rfl⟩ t_v0 kX11 (by decide) rfl rfl rfl (Nat.le_of_ble_eq_true rfl) ⟨Nat.zero_le _, Nat.zero_le _⟩ (fun r3 S2 h => ?_)
    refine jIf_eq C 219 223 (by decide +kernel : decode cX11_behindSum 216 = .ok (.ifCond .eq 7, 3)) rfl rfl (fun c4 => ?_) (fun c4 => ?_)
    · have h := it1 h c4
      refine jB C [(.iconst 0, 1, 0)] 224 [(2, .int u0), (0, .ref (b + v0))] [.int 0, .ref (b + v0)] (by decide +kernel) rfl rfl ?_
      refine jSub [1, 0] rfl ?_
      exact j_X11_behindSum_224 C hE t_v0 t_v0 h
    · have h := it2 h c4
      refine jSub [1, 0] rfl ?_
      exact j_X11_behindSum_219 C hE t_v0 t_v0 h
set_option maxHeartbeats 4000000 in
set_option maxRecDepth 100000 in
theorem j_X11_behindSum_163 {p : Program} {l : Launch} {e : Env} {s : State} {m : MethodId} {args : Array Value} {below : List Frame} {meth : Method} {c : Code} {b : Nat} {D : va_G} {cy : Nat → ClassId} {G : Gm} {v0 : Nat} {S : St} {Q : Int32 → St → Prop} (C : CX p s m args meth c b D cy cX11_behindSum RX11 4 (some .int)) (hE : s.heap.size + 0 ≤ b + G.2.2) (t_v0 : ok G 10 v0) (h : f_X11_behindSum_163 G v0 Q S) : J p l e rm_X11_behindSum s m args below meth c b D cy 4 (zI b D cy below args s G Q) 0 0 G S 163 [(0, .ref (b + v0))] [] := by
  unfold f_X11_behindSum_163 at h
  refine jB C [(.aload_n 0, 1, 0)] 164 [(0, .ref (b + v0))] [.ref (b + v0)] (by decide +kernel) rfl rfl ?_
  refine jcV_I C 167 (rest := []) (ok_X11_isCompared t_v0 h) (by decide +kernel : decode cX11_behindSum 164 = .ok (.invokevirtual 378, 3)) rfl wd_1611 wd_1613 wp_139 wd_12 wd_1614 ⟨rfl, rfl⟩ hd_X11_isCompared ⟨Nat.le_of_ble_eq_true rfl, Nat.le_of_ble_eq_true rfl⟩ t_v0 kX11 (by decide) rfl rfl rfl (Nat.le_of_ble_eq_true rfl) ⟨Nat.zero_le _, Nat.zero_le _⟩ (fun r2 S1 h => ?_)
  refine jIf_eq C 170 172 (by decide +kernel : decode cX11_behindSum 167 = .ok (.ifCond .eq 5, 3)) rfl rfl (fun c3 => ?_) (fun c3 => ?_)
  · have h := it1 h c3
    refine jB C [(.aload_n 0, 1, 0), (.bipush 60, 2, 60)] 175 [(0, .ref (b + v0))] [.int 60, .ref (b + v0)] (by decide +kernel) rfl rfl ?_
    refine jcV_I C 178 (rest := []) (ok_X11_isSign t_v0 h) (by decide +kernel : decode cX11_behindSum 175 = .ok (.invokevirtual 341, 3)) rfl wd_1563 wd_1565 wp_128 wd_12 wd_1566 ⟨rfl, rfl⟩ hd_X11_isSign ⟨Nat.le_of_ble_eq_true rfl, Nat.le_of_ble_eq_true rfl⟩ t_v0 kX11 (by decide) rfl rfl rfl (Nat.le_of_ble_eq_true rfl) ⟨Nat.zero_le _, Nat.zero_le _⟩ (fun r5 S4 h => ?_)
    refine jIf_eq C 181 186 (by decide +kernel : decode cX11_behindSum 178 = .ok (.ifCond .eq 8, 3)) rfl rfl (fun c6 => ?_) (fun c6 => ?_)
    · have h := it1 h c6
      refine jB C [(.aload_n 0, 1, 0), (.bipush 62, 2, 62)] 189 [(0, .ref (b + v0))] [.int 62, .ref (b + v0)] (by decide +kernel) rfl rfl ?_
      refine jcV_I C 192 (rest := []) (ok_X11_isSign t_v0 h) (by decide +kernel : decode cX11_behindSum 189 = .ok (.invokevirtual 341, 3)) rfl wd_1563 wd_1565 wp_128 wd_12 wd_1566 ⟨rfl, rfl⟩ hd_X11_isSign ⟨Nat.le_of_ble_eq_true rfl, Nat.le_of_ble_eq_true rfl⟩ t_v0 kX11 (by decide) rfl rfl rfl (Nat.le_of_ble_eq_true rfl) ⟨Nat.zero_le _, Nat.zero_le _⟩ (fun r8 S7 h => ?_)
      refine jIf_eq C 195 200 (by decide +kernel : decode cX11_behindSum 192 = .ok (.ifCond .eq 8, 3)) rfl rfl (fun c9 => ?_) (fun c9 => ?_)
      · have h := it1 h c9
        refine jB C [(.bipush 27, 2, 27)] 202 [(0, .ref (b + v0))] [.int 27] (by decide +kernel) rfl rfl ?_
        refine jSub [0] rfl ?_
        exact j_X11_behindSum_202 C hE t_v0 h
      · have h := it2 h c9
        refine jB C [(.bipush 26, 2, 26)] 197 [(0, .ref (b + v0))] [.int 26] (by decide +kernel) rfl rfl ?_
        refine jGoto C 202 (by decide +kernel : decode cX11_behindSum 197 = .ok (.goto 5, 3)) rfl ?_
        refine jSub [0] rfl ?_
        exact j_X11_behindSum_202 C hE t_v0 h
    · have h := it2 h c6
      refine jB C [(.bipush 25, 2, 25)] 183 [(0, .ref (b + v0))] [.int 25] (by decide +kernel) rfl rfl ?_
      refine jGoto C 202 (by decide +kernel : decode cX11_behindSum 183 = .ok (.goto 19, 3)) rfl ?_
      refine jSub [0] rfl ?_
      exact j_X11_behindSum_202 C hE t_v0 h
  · have h := it2 h c3
    refine jB C [(.iconst 2, 1, 2)] 171 [(0, .ref (b + v0))] [.int 2] (by decide +kernel) rfl rfl ?_
    exact jRetI C (by decide +kernel : decode cX11_behindSum 171 = .ok (.ireturn, 1)) (Nat.le_refl _) (Nat.le_refl _) ⟨rfl, h⟩
set_option maxHeartbeats 4000000 in
set_option maxRecDepth 100000 in
theorem j_X11_behindSum_71 {p : Program} {l : Launch} {e : Env} {s : State} {m : MethodId} {args : Array Value} {below : List Frame} {meth : Method} {c : Code} {b : Nat} {D : va_G} {cy : Nat → ClassId} {G : Gm} {v0 : Nat} {v1 : Int32} {u0 : Int32} {S : St} {Q : Int32 → St → Prop} (C : CX p s m args meth c b D cy cX11_behindSum RX11 4 (some .int)) (hE : s.heap.size + 0 ≤ b + G.2.2) (t_v0 : ok G 10 v0) (h : f_X11_behindSum_71 G v0 v1 u0 Q S) : J p l e rm_X11_behindSum s m args below meth c b D cy 4 (zI b D cy below args s G Q) 0 0 G S 71 [(0, .ref (b + v0)), (1, .int v1)] [.int u0] := by
  unfold f_X11_behindSum_71 at h
  refine jB C [(.istore_n 2, 1, 0), (.iload_n 2, 1, 0), (.iconst (-1), 1, (-1))] 74 [(2, .int u0), (0, .ref (b + v0)), (1, .int v1)] [.int (-1), .int u0] (by decide +kernel) rfl rfl ?_
  refine jIcmp_eq C 77 97 (by decide +kernel : decode cX11_behindSum 74 = .ok (.if_icmp .eq 23, 3)) rfl rfl (fun c1 => ?_) (fun c1 => ?_)
  · have h := it1 h c1
    refine jB C [(.aload_n 0, 1, 0)] 98 [(2, .int u0), (0, .ref (b + v0)), (1, .int v1)] [.ref (b + v0)] (by decide +kernel) rfl rfl ?_
    refine jcV_I C 101 (rest := []) (ok_X11_inner t_v0 h) (by decide +kernel : decode cX11_behindSum 98 = .ok (.invokevirtual 375, 3)) rfl wd_1607 wd_1609 wp_138 wd_12 wd_1610 ⟨rfl, rfl⟩ hd_X11_inner ⟨Nat.le_of_ble_eq_true rfl, Nat.le_of_ble_eq_true rfl⟩ t_v0 kX11 (by decide) rfl rfl rfl (Nat.le_of_ble_eq_true rfl) ⟨Nat.zero_le _, Nat.zero_le _⟩ (fun r3 S2 h => ?_)
    refine jB C [(.istore_n 3, 1, 0), (.iload_n 3, 1, 0), (.bipush 32, 2, 32)] 105 [(3, .int r3), (2, .int u0), (0, .ref (b + v0)), (1, .int v1)] [.int 32, .int r3] (by decide +kernel) rfl rfl ?_
    refine jIcmp_ne C 108 152 (by decide +kernel : decode cX11_behindSum 105 = .ok (.if_icmp .ne 47, 3)) rfl rfl (fun c4 => ?_) (fun c4 => ?_)
    · have h := it2 h c4
      refine jB C [(.iload_n 3, 1, 0), (.iconst (-1), 1, (-1))] 154 [(3, .int r3), (2, .int u0), (0, .ref (b + v0)), (1, .int v1)] [.int (-1), .int r3] (by decide +kernel) rfl rfl ?_
      refine jIcmp_ne C 157 163 (by decide +kernel : decode cX11_behindSum 154 = .ok (.if_icmp .ne 9, 3)) rfl rfl (fun c5 => ?_) (fun c5 => ?_)
      · have h := it2 h c5
        refine jSub [2] rfl ?_
        exact j_X11_behindSum_163 C hE t_v0 h
      · have h := it1 h c5
        refine jB C [(.iload_n 1, 1, 0)] 158 [(3, .int r3), (2, .int u0), (0, .ref (b + v0)), (1, .int v1)] [.int v1] (by decide +kernel) rfl rfl ?_
        refine jIf_ne C 161 163 (by decide +kernel : decode cX11_behindSum 158 = .ok (.ifCond .ne 5, 3)) rfl rfl (fun c6 => ?_) (fun c6 => ?_)
        · have h := it2 h c6
          refine jSub [2] rfl ?_
          exact j_X11_behindSum_163 C hE t_v0 h
        · have h := it1 h c6
          refine jB C [(.iconst 4, 1, 4)] 162 [(3, .int r3), (2, .int u0), (0, .ref (b + v0)), (1, .int v1)] [.int 4] (by decide +kernel) rfl rfl ?_
          exact jRetI C (by decide +kernel : decode cX11_behindSum 162 = .ok (.ireturn, 1)) (Nat.le_refl _) (Nat.le_refl _) ⟨rfl, h⟩
    · have h := it1 h c4
      refine jB C [(.aload_n 0, 1, 0), (.aload_n 0, 1, 0), (.bipush 93, 2, 93)] 112 [(3, .int r3), (2, .int u0), (0, .ref (b + v0)), (1, .int v1)] [.int 93, .ref (b + v0), .ref (b + v0)] (by decide +kernel) rfl rfl ?_
      refine jcV_I C 115 (rest := [.ref (b + v0)]) (ok_X11_isSign t_v0 h) (by decide +kernel : decode cX11_behindSum 112 = .ok (.invokevirtual 341, 3)) rfl wd_1563 wd_1565 wp_128 wd_12 wd_1566 ⟨rfl, rfl⟩ hd_X11_isSign ⟨Nat.le_of_ble_eq_true rfl, Nat.le_of_ble_eq_true rfl⟩ t_v0 kX11 (by decide) rfl rfl rfl (Nat.le_of_ble_eq_true rfl) ⟨Nat.zero_le _, Nat.zero_le _⟩ (fun r8 S7 h => ?_)
      refine jcV_V C 118 (rest := []) (ok_X11_must t_v0 h) (by decide +kernel : decode cX11_behindSum 115 = .ok (.invokevirtual 304, 3)) rfl wd_1546 wd_1548 wp_124 wd_12 wd_1549 ⟨rfl, rfl⟩ hd_X11_must ⟨Nat.le_of_ble_eq_true rfl, Nat.le_of_ble_eq_true rfl⟩ t_v0 kX11 (by decide) rfl rfl rfl (Nat.le_of_ble_eq_true rfl) ⟨Nat.zero_le _, Nat.zero_le _⟩ (fun S9 h => ?_)
      refine jB C [(.aload_n 0, 1, 0)] 119 [(3, .int r3), (2, .int u0), (0, .ref (b + v0)), (1, .int v1)] [.ref (b + v0)] (by decide +kernel) rfl rfl ?_
      refine jGetI C 122 (by decide +kernel : decode cX11_behindSum 119 = .ok (.getfield 271, 3)) rfl t_v0 kX11 20 (by decide) rfl rfl (by decide) wd_1174 ?_
      refine jIf_ne C 125 150 (by decide +kernel : decode cX11_behindSum 122 = .ok (.ifCond .ne 28, 3)) rfl rfl (fun c10 => ?_) (fun c10 => ?_)
      · have h := it2 h c10
        refine jB C [(.iconst 3, 1, 3)] 151 [(3, .int r3), (2, .int u0), (0, .ref (b + v0)), (1, .int v1)] [.int 3] (by decide +kernel) rfl rfl ?_
        exact jRetI C (by decide +kernel : decode cX11_behindSum 151 = .ok (.ireturn, 1)) (Nat.le_refl _) (Nat.le_refl _) ⟨rfl, h⟩
      · have h := it1 h c10
        refine jB C [(.aload_n 0, 1, 0), (.iconst 5, 1, 5)] 127 [(3, .int r3), (2, .int u0), (0, .ref (b + v0)), (1, .int v1)] [.int 5, .ref (b + v0)] (by decide +kernel) rfl rfl ?_
        refine jcV_V C 130 (rest := []) (ok_X11_settle t_v0 h) (by decide +kernel : decode cX11_behindSum 127 = .ok (.invokevirtual 372, 3)) rfl wd_1603 wd_1605 wp_137 wd_12 wd_1606 ⟨rfl, rfl⟩ hd_X11_settle ⟨Nat.le_of_ble_eq_true rfl, Nat.le_of_ble_eq_true rfl⟩ t_v0 kX11 (by decide) rfl rfl rfl (Nat.le_of_ble_eq_true rfl) ⟨Nat.zero_le _, Nat.zero_le _⟩ (fun S11 h => ?_)
        refine jB C [(.aload_n 0, 1, 0), (.dup, 1, 0)] 132 [(3, .int r3), (2, .int u0), (0, .ref (b + v0)), (1, .int v1)] [.ref (b + v0), .ref (b + v0)] (by decide +kernel) rfl rfl ?_
        refine jGetI C 135 (by decide +kernel : decode cX11_behindSum 132 = .ok (.getfield 311, 3)) rfl t_v0 kX11 30 (by decide) rfl rfl (by decide) wd_1184 ?_
        refine jB C [(.iconst 1, 1, 1), (.isub, 1, 0)] 137 [(3, .int r3), (2, .int u0), (0, .ref (b + v0)), (1, .int v1)] [.int ((S11.1 v0 30) - 1), .ref (b + v0)] (by decide +kernel) rfl rfl ?_
        refine jPutI C 140 (by decide +kernel : decode cX11_behindSum 137 = .ok (.putfield 311, 3)) rfl hE t_v0 kX11 30 (by decide) rfl rfl (by decide) rfl wd_1184 rfl rfl rfl ?_
        refine jTopS (fun S12 e_S12 => ?_)
        have h := h S12 e_S12
        refine jB C [(.aload_n 0, 1, 0), (.dup, 1, 0)] 142 [(3, .int r3), (2, .int u0), (0, .ref (b + v0)), (1, .int v1)] [.ref (b + v0), .ref (b + v0)] (by decide +kernel) rfl rfl ?_
        refine jGetI C 145 (by decide +kernel : decode cX11_behindSum 142 = .ok (.getfield 332, 3)) rfl t_v0 kX11 31 (by decide) rfl rfl (by decide) wd_1185 ?_
        refine jB C [(.iconst 1, 1, 1), (.isub, 1, 0)] 147 [(3, .int r3), (2, .int u0), (0, .ref (b + v0)), (1, .int v1)] [.int ((S12.1 v0 31) - 1), .ref (b + v0)] (by decide +kernel) rfl rfl ?_
        refine jPutI C 150 (by decide +kernel : decode cX11_behindSum 147 = .ok (.putfield 332, 3)) rfl hE t_v0 kX11 31 (by decide) rfl rfl (by decide) rfl wd_1185 rfl rfl rfl ?_
        refine jTopS (fun S13 e_S13 => ?_)
        have h := h S13 e_S13
        refine jB C [(.iconst 3, 1, 3)] 151 [(3, .int r3), (2, .int u0), (0, .ref (b + v0)), (1, .int v1)] [.int 3] (by decide +kernel) rfl rfl ?_
        exact jRetI C (by decide +kernel : decode cX11_behindSum 151 = .ok (.ireturn, 1)) (Nat.le_refl _) (Nat.le_refl _) ⟨rfl, h⟩
  · have h := it2 h c1
    refine jB C [(.aload_n 0, 1, 0), (.iload_n 2, 1, 0)] 79 [(2, .int u0), (0, .ref (b + v0)), (1, .int v1)] [.int u0, .ref (b + v0)] (by decide +kernel) rfl rfl ?_
    refine jcS_I C 82 (rest := [.ref (b + v0)]) (ok_X11_binds h) (by decide +kernel : decode cX11_behindSum 79 = .ok (.invokestatic 314, 3)) rfl wd_1600 wd_1601 wd_12 wd_1602 ⟨rfl, rfl⟩ hd_X11_binds ⟨Nat.le_of_ble_eq_true rfl, Nat.le_of_ble_eq_true rfl⟩ rfl rfl (Nat.le_of_ble_eq_true rfl) ⟨Nat.zero_le _, Nat.zero_le _⟩ (fun r15 S14 h => ?_)
    refine jcV_V C 85 (rest := []) (ok_X11_settle t_v0 h) (by decide +kernel : decode cX11_behindSum 82 = .ok (.invokevirtual 372, 3)) rfl wd_1603 wd_1605 wp_137 wd_12 wd_1606 ⟨rfl, rfl⟩ hd_X11_settle ⟨Nat.le_of_ble_eq_true rfl, Nat.le_of_ble_eq_true rfl⟩ t_v0 kX11 (by decide) rfl rfl rfl (Nat.le_of_ble_eq_true rfl) ⟨Nat.zero_le _, Nat.zero_le _⟩ (fun S16 h => ?_)
    refine jB C [(.aload_n 0, 1, 0), (.iload_n 2, 1, 0), (.iconst 0, 1, 0)] 88 [(2, .int u0), (0, .ref (b + v0)), (1, .int v1)] [.int 0, .int u0, .ref (b + v0)] (by decide +kernel) rfl rfl ?_
    refine jcV_V C 91 (rest := []) (ok_X11_push t_v0 h) (by decide +kernel : decode cX11_behindSum 88 = .ok (.invokevirtual 335, 3)) rfl wd_1559 wd_1561 wp_127 wd_12 wd_1562 ⟨rfl, rfl⟩ hd_X11_push ⟨Nat.le_of_ble_eq_true rfl, Nat.le_of_ble_eq_true rfl⟩ t_v0 kX11 (by decide) rfl rfl rfl (Nat.le_of_ble_eq_true rfl) ⟨Nat.zero_le _, Nat.zero_le _⟩ (fun S17 h => ?_)
    refine jB C [(.aload_n 0, 1, 0)] 92 [(2, .int u0), (0, .ref (b + v0)), (1, .int v1)] [.ref (b + v0)] (by decide +kernel) rfl rfl ?_
    refine jcV_V C 95 (rest := []) (ok_X11_next t_v0 h) (by decide +kernel : decode cX11_behindSum 92 = .ok (.invokevirtual 275, 3)) rfl wd_1524 wd_1526 wp_121 wd_12 wd_1527 ⟨rfl, rfl⟩ hd_X11_next ⟨Nat.le_of_ble_eq_true rfl, Nat.le_of_ble_eq_true rfl⟩ t_v0 kX11 (by decide) rfl rfl rfl (Nat.le_of_ble_eq_true rfl) ⟨Nat.zero_le _, Nat.zero_le _⟩ (fun S18 h => ?_)
    refine jB C [(.iconst 1, 1, 1)] 96 [(2, .int u0), (0, .ref (b + v0)), (1, .int v1)] [.int 1] (by decide +kernel) rfl rfl ?_
    exact jRetI C (by decide +kernel : decode cX11_behindSum 96 = .ok (.ireturn, 1)) (Nat.le_refl _) (Nat.le_refl _) ⟨rfl, h⟩
set_option maxHeartbeats 4000000 in
set_option maxRecDepth 100000 in
theorem j_X11_behindSum {p : Program} {l : Launch} {e : Env} {s : State} {m : MethodId} {args : Array Value} {below : List Frame} {meth : Method} {c : Code} {b : Nat} {D : va_G} {cy : Nat → ClassId} {G : Gm} {v0 : Nat} {v1 : Int32} {S : St} {Q : Int32 → St → Prop} (C : CX p s m args meth c b D cy cX11_behindSum RX11 4 (some .int)) (hE : s.heap.size + 0 ≤ b + G.2.2) (t_v0 : ok G 10 v0) (h : f_X11_behindSum G v0 v1 Q S) : J p l e rm_X11_behindSum s m args below meth c b D cy 4 (zI b D cy below args s G Q) 0 0 G S 0 [(0, .ref (b + v0)), (1, .int v1)] [] := by
  unfold f_X11_behindSum at h
  refine jB C [(.aload_n 0, 1, 0), (.bipush 43, 2, 43)] 3 [(0, .ref (b + v0)), (1, .int v1)] [.int 43, .ref (b + v0)] (by decide +kernel) rfl rfl ?_
  refine jcV_I C 6 (rest := []) (ok_X11_isSign t_v0 h) (by decide +kernel : decode cX11_behindSum 3 = .ok (.invokevirtual 341, 3)) rfl wd_1563 wd_1565 wp_128 wd_12 wd_1566 ⟨rfl, rfl⟩ hd_X11_isSign ⟨Nat.le_of_ble_eq_true rfl, Nat.le_of_ble_eq_true rfl⟩ t_v0 kX11 (by decide) rfl rfl rfl (Nat.le_of_ble_eq_true rfl) ⟨Nat.zero_le _, Nat.zero_le _⟩ (fun r2 S1 h => ?_)
  refine jIf_eq C 9 14 (by decide +kernel : decode cX11_behindSum 6 = .ok (.ifCond .eq 8, 3)) rfl rfl (fun c3 => ?_) (fun c3 => ?_)
  · have h := it1 h c3
    refine jB C [(.aload_n 0, 1, 0), (.bipush 45, 2, 45)] 17 [(0, .ref (b + v0)), (1, .int v1)] [.int 45, .ref (b + v0)] (by decide +kernel) rfl rfl ?_
    refine jcV_I C 20 (rest := []) (ok_X11_isSign t_v0 h) (by decide +kernel : decode cX11_behindSum 17 = .ok (.invokevirtual 341, 3)) rfl wd_1563 wd_1565 wp_128 wd_12 wd_1566 ⟨rfl, rfl⟩ hd_X11_isSign ⟨Nat.le_of_ble_eq_true rfl, Nat.le_of_ble_eq_true rfl⟩ t_v0 kX11 (by decide) rfl rfl rfl (Nat.le_of_ble_eq_true rfl) ⟨Nat.zero_le _, Nat.zero_le _⟩ (fun r5 S4 h => ?_)
    refine jIf_eq C 23 28 (by decide +kernel : decode cX11_behindSum 20 = .ok (.ifCond .eq 8, 3)) rfl rfl (fun c6 => ?_) (fun c6 => ?_)
    · have h := it1 h c6
      refine jB C [(.aload_n 0, 1, 0), (.bipush 42, 2, 42)] 31 [(0, .ref (b + v0)), (1, .int v1)] [.int 42, .ref (b + v0)] (by decide +kernel) rfl rfl ?_
      refine jcV_I C 34 (rest := []) (ok_X11_isSign t_v0 h) (by decide +kernel : decode cX11_behindSum 31 = .ok (.invokevirtual 341, 3)) rfl wd_1563 wd_1565 wp_128 wd_12 wd_1566 ⟨rfl, rfl⟩ hd_X11_isSign ⟨Nat.le_of_ble_eq_true rfl, Nat.le_of_ble_eq_true rfl⟩ t_v0 kX11 (by decide) rfl rfl rfl (Nat.le_of_ble_eq_true rfl) ⟨Nat.zero_le _, Nat.zero_le _⟩ (fun r8 S7 h => ?_)
      refine jIf_eq C 37 42 (by decide +kernel : decode cX11_behindSum 34 = .ok (.ifCond .eq 8, 3)) rfl rfl (fun c9 => ?_) (fun c9 => ?_)
      · have h := it1 h c9
        refine jB C [(.aload_n 0, 1, 0), (.bipush 47, 2, 47)] 45 [(0, .ref (b + v0)), (1, .int v1)] [.int 47, .ref (b + v0)] (by decide +kernel) rfl rfl ?_
        refine jcV_I C 48 (rest := []) (ok_X11_isSign t_v0 h) (by decide +kernel : decode cX11_behindSum 45 = .ok (.invokevirtual 341, 3)) rfl wd_1563 wd_1565 wp_128 wd_12 wd_1566 ⟨rfl, rfl⟩ hd_X11_isSign ⟨Nat.le_of_ble_eq_true rfl, Nat.le_of_ble_eq_true rfl⟩ t_v0 kX11 (by decide) rfl rfl rfl (Nat.le_of_ble_eq_true rfl) ⟨Nat.zero_le _, Nat.zero_le _⟩ (fun r11 S10 h => ?_)
        refine jIf_eq C 51 56 (by decide +kernel : decode cX11_behindSum 48 = .ok (.ifCond .eq 8, 3)) rfl rfl (fun c12 => ?_) (fun c12 => ?_)
        · have h := it1 h c12
          refine jB C [(.aload_n 0, 1, 0), (.bipush 37, 2, 37)] 59 [(0, .ref (b + v0)), (1, .int v1)] [.int 37, .ref (b + v0)] (by decide +kernel) rfl rfl ?_
          refine jcV_I C 62 (rest := []) (ok_X11_isSign t_v0 h) (by decide +kernel : decode cX11_behindSum 59 = .ok (.invokevirtual 341, 3)) rfl wd_1563 wd_1565 wp_128 wd_12 wd_1566 ⟨rfl, rfl⟩ hd_X11_isSign ⟨Nat.le_of_ble_eq_true rfl, Nat.le_of_ble_eq_true rfl⟩ t_v0 kX11 (by decide) rfl rfl rfl (Nat.le_of_ble_eq_true rfl) ⟨Nat.zero_le _, Nat.zero_le _⟩ (fun r14 S13 h => ?_)
          refine jIf_eq C 65 70 (by decide +kernel : decode cX11_behindSum 62 = .ok (.ifCond .eq 8, 3)) rfl rfl (fun c15 => ?_) (fun c15 => ?_)
          · have h := it1 h c15
            refine jB C [(.iconst (-1), 1, (-1))] 71 [(0, .ref (b + v0)), (1, .int v1)] [.int (-1)] (by decide +kernel) rfl rfl ?_
            refine jSub [0, 1] rfl ?_
            exact j_X11_behindSum_71 C hE t_v0 h
          · have h := it2 h c15
            refine jB C [(.bipush 24, 2, 24)] 67 [(0, .ref (b + v0)), (1, .int v1)] [.int 24] (by decide +kernel) rfl rfl ?_
            refine jGoto C 71 (by decide +kernel : decode cX11_behindSum 67 = .ok (.goto 4, 3)) rfl ?_
            refine jSub [0, 1] rfl ?_
            exact j_X11_behindSum_71 C hE t_v0 h
        · have h := it2 h c12
          refine jB C [(.bipush 23, 2, 23)] 53 [(0, .ref (b + v0)), (1, .int v1)] [.int 23] (by decide +kernel) rfl rfl ?_
          refine jGoto C 71 (by decide +kernel : decode cX11_behindSum 53 = .ok (.goto 18, 3)) rfl ?_
          refine jSub [0, 1] rfl ?_
          exact j_X11_behindSum_71 C hE t_v0 h
      · have h := it2 h c9
        refine jB C [(.bipush 22, 2, 22)] 39 [(0, .ref (b + v0)), (1, .int v1)] [.int 22] (by decide +kernel) rfl rfl ?_
        refine jGoto C 71 (by decide +kernel : decode cX11_behindSum 39 = .ok (.goto 32, 3)) rfl ?_
        refine jSub [0, 1] rfl ?_
        exact j_X11_behindSum_71 C hE t_v0 h
    · have h := it2 h c6
      refine jB C [(.bipush 21, 2, 21)] 25 [(0, .ref (b + v0)), (1, .int v1)] [.int 21] (by decide +kernel) rfl rfl ?_
      refine jGoto C 71 (by decide +kernel : decode cX11_behindSum 25 = .ok (.goto 46, 3)) rfl ?_
      refine jSub [0, 1] rfl ?_
      exact j_X11_behindSum_71 C hE t_v0 h
  · have h := it2 h c3
    refine jB C [(.bipush 20, 2, 20)] 11 [(0, .ref (b + v0)), (1, .int v1)] [.int 20] (by decide +kernel) rfl rfl ?_
    refine jGoto C 71 (by decide +kernel : decode cX11_behindSum 11 = .ok (.goto 60, 3)) rfl ?_
    refine jSub [0, 1] rfl ?_
    exact j_X11_behindSum_71 C hE t_v0 h
theorem ok_X11_behindSum {G : Gm} {v0 : Nat} {v1 : Int32} {S : St} {Q : Int32 → St → Prop} (t_v0 : ok G 10 v0) (h : f_X11_behindSum G v0 v1 Q S) : MT yX11_behindSum cX11_behindSum 4 (some .int) rm_X11_behindSum 0 0 (fun b => [.ref (b + v0), .int v1]) G S (QI (fun r G1 S1 => G1 = G ∧ Q r S1)) := MT.ofJ (by decide) (fun b => [(0, .ref (b + v0)), (1, .int v1)]) (fun b => rfl) (fun b => Nat.le_of_ble_eq_true rfl) (fun l b D cy p e s m below meth c C hE hn => j_X11_behindSum C hE t_v0 h)
theorem hd_X11_behindSum : yX11_behindSum.cls ≠ "java/lang/invoke/MethodHandle" ∧ yX11_behindSum.cls ≠ "java/lang/invoke/VarHandle" ∧ (parseMethodDescriptor yX11_behindSum.desc).map (fun d => d.parameters.length) = some 1 := by decide +kernel
