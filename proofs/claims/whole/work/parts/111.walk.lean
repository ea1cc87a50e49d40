def f_X11_end (G : Gm) (v0 : Nat) (v1 : Int32) (Q : Int32 → St → Prop) (S : St) : Prop :=
  (∀ S1, S1 = uI S v0 0 0 → (if v1 < 0 then Q (-1) S1 else (if v1 ≤ (S1.1 v0 14) then (∀ S4, S4 = uI S1 v0 14 v1 → Q v1 S4) else Q (-1) S1)))
abbrev rm_X11_end : Room := { frames := 0, cells := 0, slots := 0, locals := 0 }
set_option maxHeartbeats 4000000 in
set_option maxRecDepth 100000 in
theorem j_X11_end {p : Program} {l : Launch} {e : Env} {s : State} {m : MethodId} {args : Array Value} {below : List Frame} {meth : Method} {c : Code} {b : Nat} {D : va_G} {cy : Nat → ClassId} {G : Gm} {v0 : Nat} {v1 : Int32} {S : St} {Q : Int32 → St → Prop} (C : CX p s m args meth c b D cy cX11_end RX11 2 (some .int)) (hE : s.heap.size + 0 ≤ b + G.2.2) (t_v0 : ok G 10 v0) (h : f_X11_end G v0 v1 Q S) : J p l e rm_X11_end s m args below meth c b D cy 2 (zI b D cy below args s G Q) 0 0 G S 0 [(0, .ref (b + v0)), (1, .int v1)] [] := by
  unfold f_X11_end at h
  refine jB C [(.aload_n 0, 1, 0), (.iconst 0, 1, 0)] 2 [(0, .ref (b + v0)), (1, .int v1)] [.int 0, .ref (b + v0)] (by decide +kernel) rfl rfl ?_
  refine jPutI C 5 (by decide +kernel : decode cX11_end 2 = .ok (.putfield 165, 3)) rfl hE t_v0 kX11 0 (by decide) rfl rfl (by decide) rfl wd_1154 rfl rfl rfl ?_
  refine jTopS (fun S1 e_S1 => ?_)
  have h := h S1 e_S1
  refine jB C [(.iload_n 1, 1, 0)] 6 [(0, .ref (b + v0)), (1, .int v1)] [.int v1] (by decide +kernel) rfl rfl ?_
  refine jIf_lt C 9 17 (by decide +kernel : decode cX11_end 6 = .ok (.ifCond .lt 11, 3)) rfl rfl (fun c2 => ?_) (fun c2 => ?_)
  · have h := it1 h c2
    refine jB C [(.iconst (-1), 1, (-1))] 18 [(0, .ref (b + v0)), (1, .int v1)] [.int (-1)] (by decide +kernel) rfl rfl ?_
    exact jRetI C (by decide +kernel : decode cX11_end 18 = .ok (.ireturn, 1)) (Nat.le_refl _) (Nat.le_refl _) ⟨rfl, h⟩
  · have h := it2 h c2
    refine jB C [(.iload_n 1, 1, 0), (.aload_n 0, 1, 0)] 11 [(0, .ref (b + v0)), (1, .int v1)] [.ref (b + v0), .int v1] (by decide +kernel) rfl rfl ?_
    refine jGetI C 14 (by decide +kernel : decode cX11_end 11 = .ok (.getfield 259, 3)) rfl t_v0 kX11 14 (by decide) rfl rfl (by decide) wd_1168 ?_
    refine jIcmp_le C 17 19 (by decide +kernel : decode cX11_end 14 = .ok (.if_icmp .le 5, 3)) rfl rfl (fun c3 => ?_) (fun c3 => ?_)
    · have h := it1 h c3
      refine jB C [(.aload_n 0, 1, 0), (.iload_n 1, 1, 0)] 21 [(0, .ref (b + v0)), (1, .int v1)] [.int v1, .ref (b + v0)] (by decide +kernel) rfl rfl ?_
      refine jPutI C 24 (by decide +kernel : decode cX11_end 21 = .ok (.putfield 259, 3)) rfl hE t_v0 kX11 14 (by decide) rfl rfl (by decide) rfl wd_1168 rfl rfl rfl ?_
      refine jTopS (fun S4 e_S4 => ?_)
      have h := h S4 e_S4
      refine jB C [(.iload_n 1, 1, 0)] 25 [(0, .ref (b + v0)), (1, .int v1)] [.int v1] (by decide +kernel) rfl rfl ?_
      exact jRetI C (by decide +kernel : decode cX11_end 25 = .ok (.ireturn, 1)) (Nat.le_refl _) (Nat.le_refl _) ⟨rfl, h⟩
    · have h := it2 h c3
      refine jB C [(.iconst (-1), 1, (-1))] 18 [(0, .ref (b + v0)), (1, .int v1)] [.int (-1)] (by decide +kernel) rfl rfl ?_
      exact jRetI C (by decide +kernel : decode cX11_end 18 = .ok (.ireturn, 1)) (Nat.le_refl _) (Nat.le_refl _) ⟨rfl, h⟩
theorem ok_X11_end {G : Gm} {v0 : Nat} {v1 : Int32} {S : St} {Q : Int32 → St → Prop} (t_v0 : ok G 10 v0) (h : f_X11_end G v0 v1 Q S) : MT yX11_end cX11_end 2 (some .int) rm_X11_end 0 0 (fun b => [.ref (b + v0), .int v1]) G S (QI (fun r G1 S1 => G1 = G ∧ Q r S1)) := MT.ofJ (by decide) (fun b => [(0, .ref (b + v0)), (1, .int v1)]) (fun b => rfl) (fun b => Nat.le_of_ble_eq_true rfl) (fun l b D cy p e s m below meth c C hE hn => j_X11_end C hE t_v0 h)
theorem hd_X11_end : yX11_end.cls ≠ "java/lang/invoke/MethodHandle" ∧ yX11_end.cls ≠ "java/lang/invoke/VarHandle" ∧ (parseMethodDescriptor yX11_end.desc).map (fun d => d.parameters.length) = some 1 := by decide +kernel
def f_X11_endText_19 (G : Gm) (v0 : Nat) (Q : St → Prop) (S : St) : Prop :=
  (∀ S1, S1 = uI S v0 21 0 → (∀ S2, S2 = uI S1 v0 14 0 → Q S2))
def f_X11_endText (G : Gm) (v0 : Nat) (Q : St → Prop) (S : St) : Prop :=
  (if (S.1 v0 20) = 0 then (if (S.1 v0 17) = 0 then f_X11_endText_19 G v0 Q S else f_X11_must G v0 0 (fun S3 => f_X11_endText_19 G v0 Q S3) S) else f_X11_endText_19 G v0 Q S)
abbrev rm_X11_endText : Room := { frames := 3, cells := 0, slots := 0, locals := 61 }
set_option maxHeartbeats 4000000 in
set_option maxRecDepth 100000 in
theorem j_X11_endText_19 {p : Program} {l : Launch} {e : Env} {s : State} {m : MethodId} {args : Array Value} {below : List Frame} {meth : Method} {c : Code} {b : Nat} {D : va_G} {cy : Nat → ClassId} {G : Gm} {v0 : Nat} {S : St} {Q : St → Prop} (C : CX p s m args meth c b D cy cX11_endText RX11 1 none) (hE : s.heap.size + 0 ≤ b + G.2.2) (t_v0 : ok G 10 v0) (h : f_X11_endText_19 G v0 Q S) : J p l e rm_X11_endText s m args below meth c b D cy 1 (zV b D cy below args s G Q) 0 0 G S 19 [(0, .ref (b + v0))] [] := by
  unfold f_X11_endText_19 at h
  refine jB C [(.aload_n 0, 1, 0), (.iconst 0, 1, 0)] 21 [(0, .ref (b + v0))] [.int 0, .ref (b + v0)] (by decide +kernel) rfl rfl ?_
  refine jPutI C 24 (by decide +kernel : decode cX11_endText 21 = .ok (.putfield 347, 3)) rfl hE t_v0 kX11 21 (by decide) rfl rfl (by decide) rfl wd_1175 rfl (by decide) (by decide) ?_
  refine jTopS (fun S1 e_S1 => ?_)
  have h := h S1 e_S1
  refine jB C [(.aload_n 0, 1, 0), (.iconst 0, 1, 0)] 26 [(0, .ref (b + v0))] [.int 0, .ref (b + v0)] (by decide +kernel) rfl rfl ?_
  refine jPutI C 29 (by decide +kernel : decode cX11_endText 26 = .ok (.putfield 259, 3)) rfl hE t_v0 kX11 14 (by decide) rfl rfl (by decide) rfl wd_1168 rfl rfl rfl ?_
  refine jTopS (fun S2 e_S2 => ?_)
  have h := h S2 e_S2
  exact jRetV C (by decide +kernel : decode cX11_endText 29 = .ok (.return_, 1)) (Nat.le_refl _) (Nat.le_refl _) ⟨rfl, h⟩
set_option maxHeartbeats 4000000 in
set_option maxRecDepth 100000 in
theorem j_X11_endText {p : Program} {l : Launch} {e : Env} {s : State} {m : MethodId} {args : Array Value} {below : List Frame} {meth : Method} {c : Code} {b : Nat} {D : va_G} {cy : Nat → ClassId} {G : Gm} {v0 : Nat} {S : St} {Q : St → Prop} (C : CX p s m args meth c b D cy cX11_endText RX11 1 none) (hE : s.heap.size + 0 ≤ b + G.2.2) (t_v0 : ok G 10 v0) (h : f_X11_endText G v0 Q S) : J p l e rm_X11_endText s m args below meth c b D cy 1 (zV b D cy below args s G Q) 0 0 G S 0 [(0, .ref (b + v0))] [] := by
  unfold f_X11_endText at h
  refine jB C [(.aload_n 0, 1, 0)] 1 [(0, .ref (b + v0))] [.ref (b + v0)] (by decide +kernel) rfl rfl ?_
  refine jGetI C 4 (by decide +kernel : decode cX11_endText 1 = .ok (.getfield 271, 3)) rfl t_v0 kX11 20 (by decide) rfl rfl (by decide) wd_1174 ?_
  refine jIf_ne C 7 19 (by decide +kernel : decode cX11_endText 4 = .ok (.ifCond .ne 15, 3)) rfl rfl (fun c1 => ?_) (fun c1 => ?_)
  · have h := it2 h c1
    refine jSub [0] rfl ?_
    exact j_X11_endText_19 C hE t_v0 h
  · have h := it1 h c1
    refine jB C [(.aload_n 0, 1, 0)] 8 [(0, .ref (b + v0))] [.ref (b + v0)] (by decide +kernel) rfl rfl ?_
    refine jGetI C 11 (by decide +kernel : decode cX11_endText 8 = .ok (.getfield 291, 3)) rfl t_v0 kX11 17 (by decide) rfl rfl (by decide) wd_1171 ?_
    refine jIf_eq C 14 19 (by decide +kernel : decode cX11_endText 11 = .ok (.ifCond .eq 8, 3)) rfl rfl (fun c2 => ?_) (fun c2 => ?_)
    · have h := it1 h c2
      refine jSub [0] rfl ?_
      exact j_X11_endText_19 C hE t_v0 h
    · have h := it2 h c2
      refine jB C [(.aload_n 0, 1, 0), (.iconst 0, 1, 0)] 16 [(0, .ref (b + v0))] [.int 0, .ref (b + v0)] (by decide +kernel) rfl rfl ?_
      refine jcV_V C 19 (rest := []) (ok_X11_must t_v0 h) (by decide +kernel : decode cX11_endText 16 = .ok (.invokevirtual 304, 3)) rfl wd_1546 wd_1548 wp_124 wd_12 wd_1549 ⟨rfl, rfl⟩ hd_X11_must ⟨Nat.le_of_ble_eq_true rfl, Nat.le_of_ble_eq_true rfl⟩ t_v0 kX11 (by decide) rfl rfl rfl (Nat.le_of_ble_eq_true rfl) ⟨Nat.zero_le _, Nat.zero_le _⟩ (fun S3 h => ?_)
      refine jSub [0] rfl ?_
      exact j_X11_endText_19 C hE t_v0 h
theorem ok_X11_endText {G : Gm} {v0 : Nat} {S : St} {Q : St → Prop} (t_v0 : ok G 10 v0) (h : f_X11_endText G v0 Q S) : MT yX11_endText cX11_endText 1 none rm_X11_endText 0 0 (fun b => [.ref (b + v0)]) G S (QV (fun G1 S1 => G1 = G ∧ Q S1)) := MT.ofJ (by decide) (fun b => [(0, .ref (b + v0))]) (fun b => rfl) (fun b => Nat.le_of_ble_eq_true rfl) (fun l b D cy p e s m below meth c C hE hn => j_X11_endText C hE t_v0 h)
theorem hd_X11_endText : yX11_endText.cls ≠ "java/lang/invoke/MethodHandle" ∧ yX11_endText.cls ≠ "java/lang/invoke/VarHandle" ∧ (parseMethodDescriptor yX11_endText.desc).map (fun d => d.parameters.length) = some 0 := by decide +kernel
def f_X11_fault (G : Gm) (v0 : Nat) (Q : Int32 → St → Prop) (S : St) : Prop :=
  (∀ S1, S1 = uI S v0 0 0 → Q (S1.1 v0 19) S1)
abbrev rm_X11_fault : Room := { frames := 0, cells := 0, slots := 0, locals := 0 }
set_option maxHeartbeats 4000000 in
set_option maxRecDepth 100000 in
theorem j_X11_fault {p : Program} {l : Launch} {e : Env} {s : State} {m : MethodId} {args : Array Value} {below : List Frame} {meth : Method} {c : Code} {b : Nat} {D : va_G} {cy : Nat → ClassId} {G : Gm} {v0 : Nat} {S : St} {Q : Int32 → St → Prop} (C : CX p s m args meth c b D cy cX11_fault RX11 1 (some .int)) (hE : s.heap.size + 0 ≤ b + G.2.2) (t_v0 : ok G 10 v0) (h : f_X11_fault G v0 Q S) : J p l e rm_X11_fault s m args below meth c b D cy 1 (zI b D cy below args s G Q) 0 0 G S 0 [(0, .ref (b + v0))] [] := by
  unfold f_X11_fault at h
  refine jB C [(.aload_n 0, 1, 0), (.iconst 0, 1, 0)] 2 [(0, .ref (b + v0))] [.int 0, .ref (b + v0)] (by decide +kernel) rfl rfl ?_
  refine jPutI C 5 (by decide +kernel : decode cX11_fault 2 = .ok (.putfield 165, 3)) rfl hE t_v0 kX11 0 (by decide) rfl rfl (by decide) rfl wd_1154 rfl rfl rfl ?_
  refine jTopS (fun S1 e_S1 => ?_)
  have h := h S1 e_S1
  refine jB C [(.aload_n 0, 1, 0)] 6 [(0, .ref (b + v0))] [.ref (b + v0)] (by decide +kernel) rfl rfl ?_
  refine jGetI C 9 (by decide +kernel : decode cX11_fault 6 = .ok (.getfield 41, 3)) rfl t_v0 kX11 19 (by decide) rfl rfl (by decide) wd_1173 ?_
  exact jRetI C (by decide +kernel : decode cX11_fault 9 = .ok (.ireturn, 1)) (Nat.le_refl _) (Nat.le_refl _) ⟨rfl, h⟩
theorem ok_X11_fault {G : Gm} {v0 : Nat} {S : St} {Q : Int32 → St → Prop} (t_v0 : ok G 10 v0) (h : f_X11_fault G v0 Q S) : MT yX11_fault cX11_fault 1 (some .int) rm_X11_fault 0 0 (fun b => [.ref (b + v0)]) G S (QI (fun r G1 S1 => G1 = G ∧ Q r S1)) := MT.ofJ (by decide) (fun b => [(0, .ref (b + v0))]) (fun b => rfl) (fun b => Nat.le_of_ble_eq_true rfl) (fun l b D cy p e s m below meth c C hE hn => j_X11_fault C hE t_v0 h)
theorem hd_X11_fault : yX11_fault.cls ≠ "java/lang/invoke/MethodHandle" ∧ yX11_fault.cls ≠ "java/lang/invoke/VarHandle" ∧ (parseMethodDescriptor yX11_fault.desc).map (fun d => d.parameters.length) = some 0 := by decide +kernel
def f_X11_four_3_n (G : Gm) (v0 : Nat) (v1 : Int32) (Q : St → Prop) : Nat → Int32 → St → Prop
  | 0, _, _ => False
  | n + 1, v2, S => (if v2 < 0 then Q S else (∃ a2, S.2.2 v0 13 = some a2 ∧ (vp_in (S.1 v0 14) (G.2.1 a2) ∧ ∀ S4, S4 = uI S a2 (S.1 v0 14).toNatClampNeg ((v1 >>> ((v2 : Int32) &&& 31)) &&& 255) → (∀ S5, S5 = uI S4 v0 14 ((S4.1 v0 14) + 1) → (f_X11_four_3_n G v0 v1 Q n) (v2 + (-8)) S5))))
def f_X11_four_3 (G : Gm) (v0 : Nat) (v1 : Int32) (Q : St → Prop) (v2 : Int32) (S : St) : Prop := ∃ n, f_X11_four_3_n G v0 v1 Q n v2 S
def f_X11_four (G : Gm) (v0 : Nat) (v1 : Int32) (Q : St → Prop) (S : St) : Prop :=
  f_X11_four_3 G v0 v1 Q 24 S
abbrev rm_X11_four : Room := { frames := 0, cells := 0, slots := 0, locals := 0 }
set_option maxHeartbeats 4000000 in
set_option maxRecDepth 100000 in
theorem j_X11_four_3_n {p : Program} {l : Launch} {e : Env} {s : State} {m : MethodId} {args : Array Value} {below : List Frame} {meth : Method} {c : Code} {b : Nat} {D : va_G} {cy : Nat → ClassId} {G : Gm} {v0 : Nat} {v1 : Int32} {Q : St → Prop} (C : CX p s m args meth c b D cy cX11_four RX11 3 none) (hE : s.heap.size + 0 ≤ b + G.2.2) (t_v0 : ok G 10 v0) : ∀ n (v2 : Int32) S, f_X11_four_3_n G v0 v1 Q n v2 S → J p l e rm_X11_four s m args below meth c b D cy 3 (zV b D cy below args s G Q) 0 0 G S 3 [(0, .ref (b + v0)), (1, .int v1), (2, .int v2)] [] := by
  intro n
  induction n with
  | zero => intro v2 S h; exact h.elim
  | succ n ih =>
    intro v2 S h
    unfold f_X11_four_3_n at h
    refine jB C [(.iload_n 2, 1, 0)] 4 [(0, .ref (b + v0)), (1, .int v1), (2, .int v2)] [.int v2] (by decide +kernel) rfl rfl ?_
    refine jIf_lt C 7 39 (by decide +kernel : decode cX11_four 4 = .ok (.ifCond .lt 35, 3)) rfl rfl (fun c1 => ?_) (fun c1 => ?_)
    · have h := it1 h c1
      exact jRetV C (by decide +kernel : decode cX11_four 39 = .ok (.return_, 1)) (Nat.le_refl _) (Nat.le_refl _) ⟨rfl, h⟩
    · have h := it2 h c1
      refine jB C [(.aload_n 0, 1, 0)] 8 [(0, .ref (b + v0)), (1, .int v1), (2, .int v2)] [.ref (b + v0)] (by decide +kernel) rfl rfl ?_
      obtain ⟨a2, e_a2, h⟩ := h
      refine jGetR C 11 (by decide +kernel : decode cX11_four 8 = .ok (.getfield 38, 3)) rfl t_v0 kX11 13 (by decide) rfl rfl (by decide) wd_1167 e_a2 rfl (fun t_a2 => ?_)
      refine jB C [(.aload_n 0, 1, 0)] 12 [(0, .ref (b + v0)), (1, .int v1), (2, .int v2)] [.ref (b + v0), .ref (b + a2)] (by decide +kernel) rfl rfl ?_
      refine jGetI C 15 (by decide +kernel : decode cX11_four 12 = .ok (.getfield 259, 3)) rfl t_v0 kX11 14 (by decide) rfl rfl (by decide) wd_1168 ?_
      refine jB C [(.iload_n 1, 1, 0), (.iload_n 2, 1, 0), (.ishr, 1, 0), (.sipush 255, 3, 255), (.iand, 1, 0)] 22 [(0, .ref (b + v0)), (1, .int v1), (2, .int v2)] [.int ((v1 >>> ((v2 : Int32) &&& 31)) &&& 255), .int (S.1 v0 14), .ref (b + a2)] (by decide +kernel) rfl rfl ?_
      obtain ⟨y3, h⟩ := h
      refine jIast C 23 (by decide +kernel : decode cX11_four 22 = .ok (.iastore, 1)) rfl hE t_a2 y3 ?_
      refine jTopS (fun S4 e_S4 => ?_)
      have h := h S4 e_S4
      refine jB C [(.aload_n 0, 1, 0), (.dup, 1, 0)] 25 [(0, .ref (b + v0)), (1, .int v1), (2, .int v2)] [.ref (b + v0), .ref (b + v0)] (by decide +kernel) rfl rfl ?_
      refine jGetI C 28 (by decide +kernel : decode cX11_four 25 = .ok (.getfield 259, 3)) rfl t_v0 kX11 14 (by decide) rfl rfl (by decide) wd_1168 ?_
      refine jB C [(.iconst 1, 1, 1), (.iadd, 1, 0)] 30 [(0, .ref (b + v0)), (1, .int v1), (2, .int v2)] [.int ((S4.1 v0 14) + 1), .ref (b + v0)] (by decide +kernel) rfl rfl ?_
      refine jPutI C 33 (by decide +kernel : decode cX11_four 30 = .ok (.putfield 259, 3)) rfl hE t_v0 kX11 14 (by decide) rfl rfl (by decide) rfl wd_1168 rfl rfl rfl ?_
      refine jTopS (fun S5 e_S5 => ?_)
      have h := h S5 e_S5
      refine jB C [(.iinc 2 (-8), 3, (-8))] 36 [(2, .int (v2 + (-8))), (0, .ref (b + v0)), (1, .int v1)] [] (by decide +kernel) rfl rfl ?_
      refine jGoto C 3 (by decide +kernel : decode cX11_four 36 = .ok (.goto (-33), 3)) rfl ?_
      refine jSub [1, 2, 0] rfl ?_
      exact ih (v2 + (-8)) S5 h
theorem j_X11_four_3 {p : Program} {l : Launch} {e : Env} {s : State} {m : MethodId} {args : Array Value} {below : List Frame} {meth : Method} {c : Code} {b : Nat} {D : va_G} {cy : Nat → ClassId} {G : Gm} {v0 : Nat} {v1 : Int32} {v2 : Int32} {S : St} {Q : St → Prop} (C : CX p s m args meth c b D cy cX11_four RX11 3 none) (hE : s.heap.size + 0 ≤ b + G.2.2) (t_v0 : ok G 10 v0) (h : f_X11_four_3 G v0 v1 Q v2 S) : J p l e rm_X11_four s m args below meth c b D cy 3 (zV b D cy below args s G Q) 0 0 G S 3 [(0, .ref (b + v0)), (1, .int v1), (2, .int v2)] [] := by
  obtain ⟨n, h⟩ := h
  exact j_X11_four_3_n C hE t_v0 n v2 S h
set_option maxHeartbeats 4000000 in
set_option maxRecDepth 100000 in
theorem j_X11_four {p : Program} {l : Launch} {e : Env} {s : State} {m : MethodId} {args : Array Value} {below : List Frame} {meth : Method} {c : Code} {b : Nat} {D : va_G} {cy : Nat → ClassId} {G : Gm} {v0 : Nat} {v1 : Int32} {S : St} {Q : St → Prop} (C : CX p s m args meth c b D cy cX11_four RX11 3 none) (hE : s.heap.size + 0 ≤ b + G.2.2) (t_v0 : ok G 10 v0) (h : f_X11_four G v0 v1 Q S) : J p l e rm_X11_four s m args below meth c b D cy 3 (zV b D cy below args s G Q) 0 0 G S 0 [(0, .ref (b + v0)), (1, .int v1)] [] := by
  unfold f_X11_four at h
  refine jB C [(.bipush 24, 2, 24), (.istore_n 2, 1, 0)] 3 [(2, .int 24), (0, .ref (b + v0)), (1, .int v1)] [] (by decide +kernel) rfl rfl ?_
  refine jSub [1, 2, 0] rfl ?_
  exact j_X11_four_3 C hE t_v0 h
theorem ok_X11_four {G : Gm} {v0 : Nat} {v1 : Int32} {S : St} {Q : St → Prop} (t_v0 : ok G 10 v0) (h : f_X11_four G v0 v1 Q S) : MT yX11_four cX11_four 3 none rm_X11_four 0 0 (fun b => [.ref (b + v0), .int v1]) G S (QV (fun G1 S1 => G1 = G ∧ Q S1)) := MT.ofJ (by decide) (fun b => [(0, .ref (b + v0)), (1, .int v1)]) (fun b => rfl) (fun b => Nat.le_of_ble_eq_true rfl) (fun l b D cy p e s m below meth c C hE hn => j_X11_four C hE t_v0 h)
theorem hd_X11_four : yX11_four.cls ≠ "java/lang/invoke/MethodHandle" ∧ yX11_four.cls ≠ "java/lang/invoke/VarHandle" ∧ (parseMethodDescriptor yX11_four.desc).map (fun d => d.parameters.length) = some 1 := by decide +kernel
def f_X11_feed (G : Gm) (v0 : Nat) (v1 : Int32) (v2 : Int32) (v3 : Int32) (v4 : Int32) (v5 : Int32) (Q : Int32 → St → Prop) (S : St) : Prop :=
  (∀ S1, S1 = uI S v0 0 0 → (if ((S1.1 v0 14) + 20) ≤ 400 then f_X11_four G v0 v1 (fun S3 => f_X11_four G v0 v2 (fun S4 => f_X11_four G v0 v3 (fun S5 => f_X11_four G v0 v4 (fun S6 => f_X11_four G v0 v5 (fun S7 => Q (S7.1 v0 14) S7) S6) S5) S4) S3) S1 else Q (-1) S1))
abbrev rm_X11_feed : Room := { frames := 1, cells := 0, slots := 0, locals := 22 }
set_option maxHeartbeats 4000000 in
set_option maxRecDepth 100000 in
theorem j_X11_feed {p : Program} {l : Launch} {e : Env} {s : State} {m : MethodId} {args : Array Value} {below : List Frame} {meth : Method} {c : Code} {b : Nat} {D : va_G} {cy : Nat → ClassId} {G : Gm} {v0 : Nat} {v1 : Int32} {v2 : Int32} {v3 : Int32} {v4 : Int32} {v5 : Int32} {S : St} {Q : Int32 → St → Prop} (C : CX p s m args meth c b D cy cX11_feed RX11 6 (some .int)) (hE : s.heap.size + 0 ≤ b + G.2.2) (t_v0 : ok G 10 v0) (h : f_X11_feed G v0 v1 v2 v3 v4 v5 Q S) : J p l e rm_X11_feed s m args below meth c b D cy 6 (zI b D cy below args s G Q) 0 0 G S 0 [(0, .ref (b + v0)), (1, .int v1), (2, .int v2), (3, .int v3), (4, .int v4), (5, .int v5)] [] := by
  unfold f_X11_feed at h
  refine jB C [(.aload_n 0, 1, 0), (.iconst 0, 1, 0)] 2 [(0, .ref (b + v0)), (1, .int v1), (2, .int v2), (3, .int v3), (4, .int v4), (5, .int v5)] [.int 0, .ref (b + v0)] (by decide +kernel) rfl rfl ?_
  refine jPutI C 5 (by decide +kernel : decode cX11_feed 2 = .ok (.putfield 165, 3)) rfl hE t_v0 kX11 0 (by decide) rfl rfl (by decide) rfl wd_1154 rfl rfl rfl ?_
  refine jTopS (fun S1 e_S1 => ?_)
  have h := h S1 e_S1
  refine jB C [(.aload_n 0, 1, 0)] 6 [(0, .ref (b + v0)), (1, .int v1), (2, .int v2), (3, .int v3), (4, .int v4), (5, .int v5)] [.ref (b + v0)] (by decide +kernel) rfl rfl ?_
  refine jGetI C 9 (by decide +kernel : decode cX11_feed 6 = .ok (.getfield 259, 3)) rfl t_v0 kX11 14 (by decide) rfl rfl (by decide) wd_1168 ?_
  refine jB C [(.bipush 20, 2, 20), (.iadd, 1, 0), (.sipush 400, 3, 400)] 15 [(0, .ref (b + v0)), (1, .int v1), (2, .int v2), (3, .int v3), (4, .int v4), (5, .int v5)] [.int 400, .int ((S1.1 v0 14) + 20)] (by decide +kernel) rfl rfl ?_
  refine jIcmp_le C 18 20 (by decide +kernel : decode cX11_feed 15 = .ok (.if_icmp .le 5, 3)) rfl rfl (fun c2 => ?_) (fun c2 => ?_)
  · have h := it1 h c2
    refine jB C [(.aload_n 0, 1, 0), (.iload_n 1, 1, 0)] 22 [(0, .ref (b + v0)), (1, .int v1), (2, .int v2), (3, .int v3), (4, .int v4), (5, .int v5)] [.int v1, .ref (b + v0)] (by decide +kernel) rfl rfl ?_
    refine jcV_V C 25 (rest := []) (ok_X11_four t_v0 h) (by decide +kernel : decode cX11_feed 22 = .ok (.invokevirtual 265, 3)) rfl wd_1500 wd_1502 wp_118 wd_12 wd_1503 ⟨rfl, rfl⟩ hd_X11_four ⟨Nat.le_of_ble_eq_true rfl, Nat.le_of_ble_eq_true rfl⟩ t_v0 kX11 (by decide) rfl rfl rfl (Nat.le_of_ble_eq_true rfl) ⟨Nat.zero_le _, Nat.zero_le _⟩ (fun S3 h => ?_)
    refine jB C [(.aload_n 0, 1, 0), (.iload_n 2, 1, 0)] 27 [(0, .ref (b + v0)), (1, .int v1), (2, .int v2), (3, .int v3), (4, .int v4), (5, .int v5)] [.int v2, .ref (b + v0)] (by decide +kernel) rfl rfl ?_
    refine jcV_V C 30 (rest := []) (ok_X11_four t_v0 h) (by decide +kernel : decode cX11_feed 27 = .ok (.invokevirtual 265, 3)) rfl wd_1500 wd_1502 wp_118 wd_12 wd_1503 ⟨rfl, rfl⟩ hd_X11_four ⟨Nat.le_of_ble_eq_true rfl, Nat.le_of_ble_eq_true rfl⟩ t_v0 kX11 (by decide) rfl rfl rfl (Nat.le_of_ble_eq_true rfl) ⟨Nat.zero_le _, Nat.zero_le _⟩ (fun S4 h => ?_)
    refine jB C [(.aload_n 0, 1, 0), (.iload_n 3, 1, 0)] 32 [(0, .ref (b + v0)), (1, .int v1), (2, .int v2), (3, .int v3), (4, .int v4), (5, .int v5)] [.int v3, .ref (b + v0)] (by decide +kernel) rfl rfl ?_
    refine jcV_V C 35 (rest := []) (ok_X11_four t_v0 h) (by decide +kernel : decode cX11_feed 32 = .ok (.invokevirtual 265, 3)) rfl wd_1500 wd_1502 wp_118 wd_12 wd_1503 ⟨rfl, rfl⟩ hd_X11_four ⟨Nat.le_of_ble_eq_true rfl, Nat.le_of_ble_eq_true rfl⟩ t_v0 kX11 (by decide) rfl rfl rfl (Nat.le_of_ble_eq_true rfl) ⟨Nat.zero_le _, Nat.zero_le _⟩ (fun S5 h => ?_)
    refine jB C [(.aload_n 0, 1, 0), (.iload 4, 2, 0)] 38 [(0, .ref (b + v0)), (1, .int v1), (2, .int v2), (3, .int v3), (4, .int v4), (5, .int v5)] [.int v4, .ref (b + v0)] (by decide +kernel) rfl rfl ?_
    refine jcV_V C 41 (rest := []) (ok_X11_four t_v0 h) (by decide +kernel : decode cX11_feed 38 = .ok (.invokevirtual 265, 3)) rfl wd_1500 wd_1502 wp_118 wd_12 wd_1503 ⟨rfl, rfl⟩ hd_X11_four ⟨Nat.le_of_ble_eq_true rfl, Nat.le_of_ble_eq_true rfl⟩ t_v0 kX11 (by decide) rfl rfl rfl (Nat.le_of_ble_eq_true rfl) ⟨Nat.zero_le _, Nat.zero_le _⟩ (fun S6 h => ?_)
    refine jB C [(.aload_n 0, 1, 0), (.iload 5, 2, 0)] 44 [(0, .ref (b + v0)), (1, .int v1), (2, .int v2), (3, .int v3), (4, .int v4), (5, .int v5)] [.int v5, .ref (b + v0)] (by decide +kernel) rfl rfl ?_
    refine jcV_V C 47 (rest := []) (ok_X11_four t_v0 h) (by decide +kernel : decode cX11_feed 44 = .ok (.invokevirtual 265, 3)) rfl wd_1500 wd_1502 wp_118 wd_12 wd_1503 ⟨rfl, rfl⟩ hd_X11_four ⟨Nat.le_of_ble_eq_true rfl, Nat.le_of_ble_eq_true rfl⟩ t_v0 kX11 (by decide) rfl rfl rfl (Nat.le_of_ble_eq_true rfl) ⟨Nat.zero_le _, Nat.zero_le _⟩ (fun S7 h => ?_)
    refine jB C [(.aload_n 0, 1, 0)] 48 [(0, .ref (b + v0)), (1, .int v1), (2, .int v2), (3, .int v3), (4, .int v4), (5, .int v5)] [.ref (b + v0)] (by decide +kernel) rfl rfl ?_
    refine jGetI C 51 (by decide +kernel : decode cX11_feed 48 = .ok (.getfield 259, 3)) rfl t_v0 kX11 14 (by decide) rfl rfl (by decide) wd_1168 ?_
    exact jRetI C (by decide +kernel : decode cX11_feed 51 = .ok (.ireturn, 1)) (Nat.le_refl _) (Nat.le_refl _) ⟨rfl, h⟩
  · have h := it2 h c2
    refine jB C [(.iconst (-1), 1, (-1))] 19 [(0, .ref (b + v0)), (1, .int v1), (2, .int v2), (3, .int v3), (4, .int v4), (5, .int v5)] [.int (-1)] (by decide +kernel) rfl rfl ?_
    exact jRetI C (by decide +kernel : decode cX11_feed 19 = .ok (.ireturn, 1)) (Nat.le_refl _) (Nat.le_refl _) ⟨rfl, h⟩
theorem ok_X11_feed {G : Gm} {v0 : Nat} {v1 : Int32} {v2 : Int32} {v3 : Int32} {v4 : Int32} {v5 : Int32} {S : St} {Q : Int32 → St → Prop} (t_v0 : ok G 10 v0) (h : f_X11_feed G v0 v1 v2 v3 v4 v5 Q S) : MT yX11_feed cX11_feed 6 (some .int) rm_X11_feed 0 0 (fun b => [.ref (b + v0), .int v1, .int v2, .int v3, .int v4, .int v5]) G S (QI (fun r G1 S1 => G1 = G ∧ Q r S1)) := MT.ofJ (by decide) (fun b => [(0, .ref (b + v0)), (1, .int v1), (2, .int v2), (3, .int v3), (4, .int v4), (5, .int v5)]) (fun b => rfl) (fun b => Nat.le_of_ble_eq_true rfl) (fun l b D cy p e s m below meth c C hE hn => j_X11_feed C hE t_v0 h)
theorem hd_X11_feed : yX11_feed.cls ≠ "java/lang/invoke/MethodHandle" ∧ yX11_feed.cls ≠ "java/lang/invoke/VarHandle" ∧ (parseMethodDescriptor yX11_feed.desc).map (fun d => d.parameters.length) = some 5 := by decide +kernel
def f_X11_isNew_4_n (G : Gm) (v0 : Nat) (v1 : Int32) (Q : Int32 → St → Prop) : Nat → Int32 → Int32 → St → Prop
  | 0, _, _, _ => False
  | n + 1, v2, v3, S => (if v1 ≤ v3 then ((v2 = 0 ∨ v2 = 1) ∧ Q v2 S) else (if v2 = 0 then (f_X11_isNew_4_n G v0 v1 Q n) 0 (v3 + 1) S else (∃ a3, S.2.2 v0 48 = some a3 ∧ (vp_in v3 (G.2.1 a3) ∧ (∃ a5, S.2.2 v0 48 = some a5 ∧ (vp_in v1 (G.2.1 a5) ∧ (if (S.1 a3 v3.toNatClampNeg) = (S.1 a5 v1.toNatClampNeg) then (f_X11_isNew_4_n G v0 v1 Q n) 0 (v3 + 1) S else (f_X11_isNew_4_n G v0 v1 Q n) 1 (v3 + 1) S)))))))
def f_X11_isNew_4 (G : Gm) (v0 : Nat) (v1 : Int32) (Q : Int32 → St → Prop) (v2 : Int32) (v3 : Int32) (S : St) : Prop := ∃ n, f_X11_isNew_4_n G v0 v1 Q n v2 v3 S
def f_X11_isNew (G : Gm) (v0 : Nat) (v1 : Int32) (Q : Int32 → St → Prop) (S : St) : Prop :=
  f_X11_isNew_4 G v0 v1 Q 1 0 S
abbrev rm_X11_isNew : Room := { frames := 0, cells := 0, slots := 0, locals := 0 }
set_option maxHeartbeats 4000000 in
set_option maxRecDepth 100000 in
theorem j_X11_isNew_4_n {p : Program} {l : Launch} {e : Env} {s : State} {m : MethodId} {args : Array Value} {below : List Frame} {meth : Method} {c : Code} {b : Nat} {D : va_G} {cy : Nat → ClassId} {G : Gm} {v0 : Nat} {v1 : Int32} {Q : Int32 → St → Prop} (C : CX p s m args meth c b D cy cX11_isNew RX11 4 (some .boolean)) (hE : s.heap.size + 0 ≤ b + G.2.2) (t_v0 : ok G 10 v0) : ∀ n (v2 : Int32) (v3 : Int32) S, f_X11_isNew_4_n G v0 v1 Q n v2 v3 S → J p l e rm_X11_isNew s m args below meth c b D cy 4 (zI b D cy below args s G Q) 0 0 G S 4 [(0, .ref (b + v0)), (1, .int v1), (2, .int v2), (3, .int v3)] [] := by
  intro n
  induction n with
  | zero => intro v2 v3 S h; exact h.elim
  | succ n ih =>
    intro v2 v3 S h
    unfold f_X11_isNew_4_n at h
    refine jB C [(.iload_n 3, 1, 0), (.iload_n 1, 1, 0)] 6 [(0, .ref (b + v0)), (1, .int v1), (2, .int v2), (3, .int v3)] [.int v1, .int v3] (by decide +kernel) rfl rfl ?_
    refine jIcmp_ge C 9 40 (by decide +kernel : decode cX11_isNew 6 = .ok (.if_icmp .ge 34, 3)) rfl rfl (fun c1 => ?_) (fun c1 => ?_)
    · have h := it1 h c1
      refine jB C [(.iload_n 2, 1, 0)] 41 [(0, .ref (b + v0)), (1, .int v1), (2, .int v2), (3, .int v3)] [.int v2] (by decide +kernel) rfl rfl ?_
      exact jRetZ C (by decide +kernel : decode cX11_isNew 41 = .ok (.ireturn, 1)) (Nat.le_refl _) (Nat.le_refl _) h.1 ⟨rfl, h.2⟩
    · have h := it2 h c1
      refine jB C [(.iload_n 2, 1, 0)] 10 [(0, .ref (b + v0)), (1, .int v1), (2, .int v2), (3, .int v3)] [.int v2] (by decide +kernel) rfl rfl ?_
      refine jIf_eq C 13 32 (by decide +kernel : decode cX11_isNew 10 = .ok (.ifCond .eq 22, 3)) rfl rfl (fun c2 => ?_) (fun c2 => ?_)
      · have h := it1 h c2
        refine jB C [(.iconst 0, 1, 0), (.istore_n 2, 1, 0), (.iinc 3 1, 3, 1)] 37 [(3, .int (v3 + 1)), (2, .int 0), (0, .ref (b + v0)), (1, .int v1)] [] (by decide +kernel) rfl rfl ?_
        refine jGoto C 4 (by decide +kernel : decode cX11_isNew 37 = .ok (.goto (-33), 3)) rfl ?_
        refine jSub [2, 3, 1, 0] rfl ?_
        exact ih 0 (v3 + 1) S h
      · have h := it2 h c2
        refine jB C [(.aload_n 0, 1, 0)] 14 [(0, .ref (b + v0)), (1, .int v1), (2, .int v2), (3, .int v3)] [.ref (b + v0)] (by decide +kernel) rfl rfl ?_
        obtain ⟨a3, e_a3, h⟩ := h
        refine jGetR C 17 (by decide +kernel : decode cX11_isNew 14 = .ok (.getfield 129, 3)) rfl t_v0 kX11 48 (by decide) rfl rfl (by decide) wd_1202 e_a3 rfl (fun t_a3 => ?_)
        refine jB C [(.iload_n 3, 1, 0)] 18 [(0, .ref (b + v0)), (1, .int v1), (2, .int v2), (3, .int v3)] [.int v3, .ref (b + a3)] (by decide +kernel) rfl rfl ?_
        obtain ⟨y4, h⟩ := h
        refine jIald C 19 (by decide +kernel : decode cX11_isNew 18 = .ok (.iaload, 1)) rfl t_a3 y4 ?_
        refine jB C [(.aload_n 0, 1, 0)] 20 [(0, .ref (b + v0)), (1, .int v1), (2, .int v2), (3, .int v3)] [.ref (b + v0), .int (S.1 a3 v3.toNatClampNeg)] (by decide +kernel) rfl rfl ?_
        obtain ⟨a5, e_a5, h⟩ := h
        refine jGetR C 23 (by decide +kernel : decode cX11_isNew 20 = .ok (.getfield 129, 3)) rfl t_v0 kX11 48 (by decide) rfl rfl (by decide) wd_1202 e_a5 rfl (fun t_a5 => ?_)
        refine jB C [(.iload_n 1, 1, 0)] 24 [(0, .ref (b + v0)), (1, .int v1), (2, .int v2), (3, .int v3)] [.int v1, .ref (b + a5), .int (S.1 a3 v3.toNatClampNeg)] (by decide +kernel) rfl rfl ?_
        obtain ⟨y6, h⟩ := h
        refine jIald C 25 (by decide +kernel : decode cX11_isNew 24 = .ok (.iaload, 1)) rfl t_a5 y6 ?_
        refine jIcmp_eq C 28 32 (by decide +kernel : decode cX11_isNew 25 = .ok (.if_icmp .eq 7, 3)) rfl rfl (fun c7 => ?_) (fun c7 => ?_)
        · have h := it1 h c7
          refine jB C [(.iconst 0, 1, 0), (.istore_n 2, 1, 0), (.iinc 3 1, 3, 1)] 37 [(3, .int (v3 + 1)), (2, .int 0), (0, .ref (b + v0)), (1, .int v1)] [] (by decide +kernel) rfl rfl ?_
          refine jGoto C 4 (by decide +kernel : decode cX11_isNew 37 = .ok (.goto (-33), 3)) rfl ?_
          refine jSub [2, 3, 1, 0] rfl ?_
          exact ih 0 (v3 + 1) S h
        · have h := it2 h c7
          refine jB C [(.iconst 1, 1, 1)] 29 [(0, .ref (b + v0)), (1, .int v1), (2, .int v2), (3, .int v3)] [.int 1] (by decide +kernel) rfl rfl ?_
          refine jGoto C 33 (by decide +kernel : decode cX11_isNew 29 = .ok (.goto 4, 3)) rfl ?_
          refine jB C [(.istore_n 2, 1, 0), (.iinc 3 1, 3, 1)] 37 [(3, .int (v3 + 1)), (2, .int 1), (0, .ref (b + v0)), (1, .int v1)] [] (by decide +kernel) rfl rfl ?_
          refine jGoto C 4 (by decide +kernel : decode cX11_isNew 37 = .ok (.goto (-33), 3)) rfl ?_
          refine jSub [2, 3, 1, 0] rfl ?_
          exact ih 1 (v3 + 1) S h
theorem j_X11_isNew_4 {p : Program} {l : Launch} {e : Env} {s : State} {m : MethodId} {args : Array Value} {below : List Frame} {meth : Method} {c : Code} {b : Nat} {D : va_G} {cy : Nat → ClassId} {G : Gm} {v0 : Nat} {v1 : Int32} {v2 : Int32} {v3 : Int32} {S : St} {Q : Int32 → St → Prop} (C : CX p s m args meth c b D cy cX11_isNew RX11 4 (some .boolean)) (hE : s.heap.size + 0 ≤ b + G.2.2) (t_v0 : ok G 10 v0) (h : f_X11_isNew_4 G v0 v1 Q v2 v3 S) : J p l e rm_X11_isNew s m args below meth c b D cy 4 (zI b D cy below args s G Q) 0 0 G S 4 [(0, .ref (b + v0)), (1, .int v1), (2, .int v2), (3, .int v3)] [] := by
  obtain ⟨n, h⟩ := h
  exact j_X11_isNew_4_n C hE t_v0 n v2 v3 S h
set_option maxHeartbeats 4000000 in
set_option maxRecDepth 100000 in
theorem j_X11_isNew {p : Program} {l : Launch} {e : Env} {s : State} {m : MethodId} {args : Array Value} {below : List Frame} {meth : Method} {c : Code} {b : Nat} {D : va_G} {cy : Nat → ClassId} {G : Gm} {v0 : Nat} {v1 : Int32} {S : St} {Q : Int32 → St → Prop} (C : CX p s m args meth c b D cy cX11_isNew RX11 4 (some .boolean)) (hE : s.heap.size + 0 ≤ b + G.2.2) (t_v0 : ok G 10 v0) (h : f_X11_isNew G v0 v1 Q S) : J p l e rm_X11_isNew s m args below meth c b D cy 4 (zI b D cy below args s G Q) 0 0 G S 0 [(0, .ref (b + v0)), (1, .int v1)] [] := by
  unfold f_X11_isNew at h
  refine jB C [(.iconst 1, 1, 1), (.istore_n 2, 1, 0), (.iconst 0, 1, 0), (.istore_n 3, 1, 0)] 4 [(3, .int 0), (2, .int 1), (0, .ref (b + v0)), (1, .int v1)] [] (by decide +kernel) rfl rfl ?_
  refine jSub [2, 3, 1, 0] rfl ?_
  exact j_X11_isNew_4 C hE t_v0 h
theorem ok_X11_isNew {G : Gm} {v0 : Nat} {v1 : Int32} {S : St} {Q : Int32 → St → Prop} (t_v0 : ok G 10 v0) (h : f_X11_isNew G v0 v1 Q S) : MT yX11_isNew cX11_isNew 4 (some .boolean) rm_X11_isNew 0 0 (fun b => [.ref (b + v0), .int v1]) G S (QI (fun r G1 S1 => G1 = G ∧ Q r S1)) := MT.ofJ (by decide) (fun b => [(0, .ref (b + v0)), (1, .int v1)]) (fun b => rfl) (fun b => Nat.le_of_ble_eq_true rfl) (fun l b D cy p e s m below meth c C hE hn => j_X11_isNew C hE t_v0 h)
theorem hd_X11_isNew : yX11_isNew.cls ≠ "java/lang/invoke/MethodHandle" ∧ yX11_isNew.cls ≠ "java/lang/invoke/VarHandle" ∧ (parseMethodDescriptor yX11_isNew.desc).map (fun d => d.parameters.length) = some 1 := by decide +kernel
def f_X11_findFitted_153 (G : Gm) (k18 : Int32 → Int32 → St → Prop) (v0 : Nat) (v1 : Int32) (v2 : Int32) (v3 : Int32) (v4 : Int32) (v5 : Int32) (Q : Int32 → St → Prop) (S : St) : Prop :=
  (if v5 = 0 then k18 v2 (v3 + (-1)) S else k18 v4 (v3 + (-1)) S)
def f_X11_findFitted_122_n (G : Gm) (k18 : Int32 → Int32 → St → Prop) (v0 : Nat) (v1 : Int32) (v2 : Int32) (v3 : Int32) (v4 : Int32) (v5 : Int32) (Q : Int32 → St → Prop) : Nat → Int32 → St → Prop
  | 0, _, _ => False
  | n + 1, v6, S => (if v1 ≤ v6 then f_X11_findFitted_153 G k18 v0 v1 v2 v3 v4 v5 Q S else (if v5 = 0 then f_X11_findFitted_153 G k18 v0 v1 v2 v3 v4 v5 Q S else (∃ a3, S.2.2 v0 49 = some a3 ∧ (∃ a4, S.2.2 v0 48 = some a4 ∧ (vp_in v6 (G.2.1 a4) ∧ (vp_in v6 (G.2.1 a3) ∧ ∀ S7, S7 = uI S a3 v6.toNatClampNeg (S.1 a4 v6.toNatClampNeg) → (f_X11_findFitted_122_n G k18 v0 v1 v2 v3 v4 v5 Q n) (v6 + 1) S7))))))
def f_X11_findFitted_122 (G : Gm) (k18 : Int32 → Int32 → St → Prop) (v0 : Nat) (v1 : Int32) (v2 : Int32) (v3 : Int32) (v4 : Int32) (v5 : Int32) (Q : Int32 → St → Prop) (v6 : Int32) (S : St) : Prop := ∃ n, f_X11_findFitted_122_n G k18 v0 v1 v2 v3 v4 v5 Q n v6 S
def f_X11_findFitted_101 (G : Gm) (k18 : Int32 → Int32 → St → Prop) (v0 : Nat) (v1 : Int32) (v2 : Int32) (v3 : Int32) (v4 : Int32) (Q : Int32 → St → Prop) (S : St) : Prop :=
  (if v3 = v1 then (if v4 ≤ v2 then f_X11_findFitted_122 G k18 v0 v1 v2 v3 v4 0 Q 0 S else f_X11_findFitted_122 G k18 v0 v1 v2 v3 v4 1 Q 0 S) else f_X11_findFitted_122 G k18 v0 v1 v2 v3 v4 0 Q 0 S)
def f_X11_findFitted_53_n (G : Gm) (k18 : Int32 → Int32 → St → Prop) (v0 : Nat) (v1 : Int32) (v2 : Int32) (v3 : Int32) (Q : Int32 → St → Prop) : Nat → Int32 → Int32 → St → Prop
  | 0, _, _, _ => False
  | n + 1, v4, v5, S => (if v1 ≤ v5 then f_X11_findFitted_101 G k18 v0 v1 v2 v3 v4 Q S else (if v3 = v1 then (∃ a3, S.2.2 v0 47 = some a3 ∧ (∃ a4, S.2.2 v0 48 = some a4 ∧ (vp_in v5 (G.2.1 a4) ∧ (vp_in ((6 * v5) + (S.1 a4 v5.toNatClampNeg)) (G.2.1 a3) ∧ (if (S.1 a3 ((6 * v5) + (S.1 a4 v5.toNatClampNeg)).toNatClampNeg) = 0 then (∀ x8 : Int32, x8 = v4 + 0 → (f_X11_findFitted_53_n G k18 v0 v1 v2 v3 Q n) x8 (v5 + 1) S) else (∀ x9 : Int32, x9 = v4 + 1 → (f_X11_findFitted_53_n G k18 v0 v1 v2 v3 Q n) x9 (v5 + 1) S)))))) else f_X11_findFitted_101 G k18 v0 v1 v2 v3 v4 Q S))
def f_X11_findFitted_53 (G : Gm) (k18 : Int32 → Int32 → St → Prop) (v0 : Nat) (v1 : Int32) (v2 : Int32) (v3 : Int32) (Q : Int32 → St → Prop) (v4 : Int32) (v5 : Int32) (S : St) : Prop := ∃ n, f_X11_findFitted_53_n G k18 v0 v1 v2 v3 Q n v4 v5 S
def f_X11_findFitted_18_n (G : Gm) (v0 : Nat) (v1 : Int32) (Q : Int32 → St → Prop) : Nat → Int32 → Int32 → St → Prop
  | 0, _, _, _ => False
  | n + 1, v2, v3, S => (if v3 < 0 then Q v2 S else (∃ a2, S.2.2 v0 48 = some a2 ∧ (vp_in v3 (G.2.1 a2) ∧ (vp_in v3 (G.2.1 a2) ∧ ∀ S5, S5 = uI S a2 v3.toNatClampNeg ((S.1 a2 v3.toNatClampNeg) + 1) → (if v3 = v1 then f_X11_findFitted_53 G (f_X11_findFitted_18_n G v0 v1 Q n) v0 v1 v2 v3 Q 0 0 S5 else (∃ a7, S5.2.2 v0 48 = some a7 ∧ (vp_in v3 (G.2.1 a7) ∧ (if (S5.1 a7 v3.toNatClampNeg) < v1 then f_X11_isNew G v0 v3 (fun r11 S10 => (if r11 = 0 then (f_X11_findFitted_18_n G v0 v1 Q n) v2 v3 S10 else (∃ a13, S10.2.2 v0 48 = some a13 ∧ (vp_in (v3 + 1) (G.2.1 a13) ∧ ∀ S15, S15 = uI S10 a13 (v3 + 1).toNatClampNeg (-1) → (f_X11_findFitted_18_n G v0 v1 Q n) v2 (v3 + 1) S15)))) S5 else f_X11_findFitted_53 G (f_X11_findFitted_18_n G v0 v1 Q n) v0 v1 v2 v3 Q 0 0 S5))))))))
def f_X11_findFitted_18 (G : Gm) (v0 : Nat) (v1 : Int32) (Q : Int32 → St → Prop) (v2 : Int32) (v3 : Int32) (S : St) : Prop := ∃ n, f_X11_findFitted_18_n G v0 v1 Q n v2 v3 S
def f_X11_findFitted (G : Gm) (v0 : Nat) (Q : Int32 → St → Prop) (S : St) : Prop :=
  (∃ a1, S.2.2 v0 4 = some a1 ∧ (vp_in 0 (G.2.1 a1) ∧ (∀ x3 : Int32, x3 = S.1 a1 0.toNatClampNeg → (∃ a4, S.2.2 v0 48 = some a4 ∧ (vp_in 0 (G.2.1 a4) ∧ ∀ S6, S6 = uI S a4 0.toNatClampNeg (-1) → f_X11_findFitted_18 G v0 x3 Q (-1) 0 S6)))))
abbrev rm_X11_findFitted : Room := { frames := 1, cells := 0, slots := 0, locals := 23 }
set_option maxHeartbeats 4000000 in
set_option maxRecDepth 100000 in
theorem j_X11_findFitted_153 {p : Program} {l : Launch} {e : Env} {s : State} {m : MethodId} {args : Array Value} {below : List Frame} {meth : Method} {c : Code} {b : Nat} {D : va_G} {cy : Nat → ClassId} {G : Gm} {k18 : Int32 → Int32 → St → Prop} {v0 : Nat} {v1 : Int32} {v2 : Int32} {v3 : Int32} {v4 : Int32} {v5 : Int32} {S : St} {Q : Int32 → St → Prop} (C : CX p s m args meth c b D cy cX11_findFitted RX11 7 (some .int)) (hE : s.heap.size + 0 ≤ b + G.2.2) (t_v0 : ok G 10 v0) (hk18 : ∀ v2' v3' S, k18 v2' v3' S → J p l e rm_X11_findFitted s m args below meth c b D cy 7 (zI b D cy below args s G Q) 0 0 G S 18 [(0, .ref (b + v0)), (1, .int v1), (2, .int (v2')), (3, .int (v3'))] []) (h : f_X11_findFitted_153 G k18 v0 v1 v2 v3 v4 v5 Q S) : J p l e rm_X11_findFitted s m args below meth c b D cy 7 (zI b D cy below args s G Q) 0 0 G S 153 [(0, .ref (b + v0)), (1, .int v1), (2, .int v2), (3, .int v3), (4, .int v4), (5, .int v5)] [] := by
  unfold f_X11_findFitted_153 at h
  refine jB C [(.iload 5, 2, 0)] 155 [(0, .ref (b + v0)), (1, .int v1), (2, .int v2), (3, .int v3), (4, .int v4), (5, .int v5)] [.int v5] (by decide +kernel) rfl rfl ?_
  refine jIf_eq C 158 163 (by decide +kernel : decode cX11_findFitted 155 = .ok (.ifCond .eq 8, 3)) rfl rfl (fun c1 => ?_) (fun c1 => ?_)
  · have h := it1 h c1
    refine jB C [(.iload_n 2, 1, 0), (.istore_n 2, 1, 0), (.iinc 3 (-1), 3, (-1))] 168 [(3, .int (v3 + (-1))), (2, .int v2), (0, .ref (b + v0)), (1, .int v1), (4, .int v4), (5, .int v5)] [] (by decide +kernel) rfl rfl ?_
    refine jGoto C 18 (by decide +kernel : decode cX11_findFitted 168 = .ok (.goto (-150), 3)) rfl ?_
    refine jSub [2, 3, 1, 0] rfl ?_
    exact hk18 v2 (v3 + (-1)) S h
  · have h := it2 h c1
    refine jB C [(.iload 4, 2, 0)] 160 [(0, .ref (b + v0)), (1, .int v1), (2, .int v2), (3, .int v3), (4, .int v4), (5, .int v5)] [.int v4] (by decide +kernel) rfl rfl ?_
    refine jGoto C 164 (by decide +kernel : decode cX11_findFitted 160 = .ok (.goto 4, 3)) rfl ?_
    refine jB C [(.istore_n 2, 1, 0), (.iinc 3 (-1), 3, (-1))] 168 [(3, .int (v3 + (-1))), (2, .int v4), (0, .ref (b + v0)), (1, .int v1), (4, .int v4), (5, .int v5)] [] (by decide +kernel) rfl rfl ?_
    refine jGoto C 18 (by decide +kernel : decode cX11_findFitted 168 = .ok (.goto (-150), 3)) rfl ?_
    refine jSub [2, 3, 1, 0] rfl ?_
    exact hk18 v4 (v3 + (-1)) S h
set_option maxHeartbeats 4000000 in
set_option maxRecDepth 100000 in
theorem j_X11_findFitted_122_n {p : Program} {l : Launch} {e : Env} {s : State} {m : MethodId} {args : Array Value} {below : List Frame} {meth : Method} {c : Code} {b : Nat} {D : va_G} {cy : Nat → ClassId} {G : Gm} {k18 : Int32 → Int32 → St → Prop} {v0 : Nat} {v1 : Int32} {v2 : Int32} {v3 : Int32} {v4 : Int32} {v5 : Int32} {Q : Int32 → St → Prop} (C : CX p s m args meth c b D cy cX11_findFitted RX11 7 (some .int)) (hE : s.heap.size + 0 ≤ b + G.2.2) (t_v0 : ok G 10 v0) (hk18 : ∀ v2' v3' S, k18 v2' v3' S → J p l e rm_X11_findFitted s m args below meth c b D cy 7 (zI b D cy below args s G Q) 0 0 G S 18 [(0, .ref (b + v0)), (1, .int v1), (2, .int (v2')), (3, .int (v3'))] []) : ∀ n (v6 : Int32) S, f_X11_findFitted_122_n G k18 v0 v1 v2 v3 v4 v5 Q n v6 S → J p l e rm_X11_findFitted s m args below meth c b D cy 7 (zI b D cy below args s G Q) 0 0 G S 122 [(0, .ref (b + v0)), (1, .int v1), (2, .int v2), (3, .int v3), (4, .int v4), (5, .int v5), (6, .int v6)] [] := by
  intro n
  induction n with
  | zero => intro v6 S h; exact h.elim
  | succ n ih =>
    intro v6 S h
    unfold f_X11_findFitted_122_n at h
    refine jB C [(.iload 6, 2, 0), (.iload_n 1, 1, 0)] 125 [(0, .ref (b + v0)), (1, .int v1), (2, .int v2), (3, .int v3), (4, .int v4), (5, .int v5), (6, .int v6)] [.int v1, .int v6] (by decide +kernel) rfl rfl ?_
    refine jIcmp_ge C 128 153 (by decide +kernel : decode cX11_findFitted 125 = .ok (.if_icmp .ge 28, 3)) rfl rfl (fun c1 => ?_) (fun c1 => ?_)
    · have h := it1 h c1
      refine jSub [0, 1, 2, 3, 4, 5] rfl ?_
      exact j_X11_findFitted_153 C hE t_v0 hk18 h
    · have h := it2 h c1
      refine jB C [(.iload 5, 2, 0)] 130 [(0, .ref (b + v0)), (1, .int v1), (2, .int v2), (3, .int v3), (4, .int v4), (5, .int v5), (6, .int v6)] [.int v5] (by decide +kernel) rfl rfl ?_
      refine jIf_eq C 133 153 (by decide +kernel : decode cX11_findFitted 130 = .ok (.ifCond .eq 23, 3)) rfl rfl (fun c2 => ?_) (fun c2 => ?_)
      · have h := it1 h c2
        refine jSub [0, 1, 2, 3, 4, 5] rfl ?_
        exact j_X11_findFitted_153 C hE t_v0 hk18 h
      · have h := it2 h c2
        refine jB C [(.aload_n 0, 1, 0)] 134 [(0, .ref (b + v0)), (1, .int v1), (2, .int v2), (3, .int v3), (4, .int v4), (5, .int v5), (6, .int v6)] [.ref (b + v0)] (by decide +kernel) rfl rfl ?_
        obtain ⟨a3, e_a3, h⟩ := h
        refine jGetR C 137 (by decide +kernel : decode cX11_findFitted 134 = .ok (.getfield 132, 3)) rfl t_v0 kX11 49 (by decide) rfl rfl (by decide) wd_1203 e_a3 rfl (fun t_a3 => ?_)
        refine jB C [(.iload 6, 2, 0), (.aload_n 0, 1, 0)] 140 [(0, .ref (b + v0)), (1, .int v1), (2, .int v2), (3, .int v3), (4, .int v4), (5, .int v5), (6, .int v6)] [.ref (b + v0), .int v6, .ref (b + a3)] (by decide +kernel) rfl rfl ?_
        obtain ⟨a4, e_a4, h⟩ := h
        refine jGetR C 143 (by decide +kernel : decode cX11_findFitted 140 = .ok (.getfield 129, 3)) rfl t_v0 kX11 48 (by decide) rfl rfl (by decide) wd_1202 e_a4 rfl (fun t_a4 => ?_)
        refine jB C [(.iload 6, 2, 0)] 145 [(0, .ref (b + v0)), (1, .int v1), (2, .int v2), (3, .int v3), (4, .int v4), (5, .int v5), (6, .int v6)] [.int v6, .ref (b + a4), .int v6, .ref (b + a3)] (by decide +kernel) rfl rfl ?_
        obtain ⟨y5, h⟩ := h
        refine jIald C 146 (by decide +kernel : decode cX11_findFitted 145 = .ok (.iaload, 1)) rfl t_a4 y5 ?_
        obtain ⟨y6, h⟩ := h
        refine jIast C 147 (by decide +kernel : decode cX11_findFitted 146 = .ok (.iastore, 1)) rfl hE t_a3 y6 ?_
        refine jTopS (fun S7 e_S7 => ?_)
        have h := h S7 e_S7
        refine jB C [(.iinc 6 1, 3, 1)] 150 [(6, .int (v6 + 1)), (0, .ref (b + v0)), (1, .int v1), (2, .int v2), (3, .int v3), (4, .int v4), (5, .int v5)] [] (by decide +kernel) rfl rfl ?_
        refine jGoto C 122 (by decide +kernel : decode cX11_findFitted 150 = .ok (.goto (-28), 3)) rfl ?_
        refine jSub [1, 2, 3, 4, 5, 6, 0] rfl ?_
        exact ih (v6 + 1) S7 h
theorem j_X11_findFitted_122 {p : Program} {l : Launch} {e : Env} {s : State} {m : MethodId} {args : Array Value} {below : List Frame} {meth : Method} {c : Code} {b : Nat} {D : va_G} {cy : Nat → ClassId} {G : Gm} {k18 : Int32 → Int32 → St → Prop} {v0 : Nat} {v1 : Int32} {v2 : Int32} {v3 : Int32} {v4 : Int32} {v5 : Int32} {v6 : Int32} {S : St} {Q : Int32 → St → Prop} (C : CX p s m args meth c b D cy cX11_findFitted RX11 7 (some .int)) (hE : s.heap.size + 0 ≤ b + G.2.2) (t_v0 : ok G 10 v0) (hk18 : ∀ v2' v3' S, k18 v2' v3' S → J p l e rm_X11_findFitted s m args below meth c b D cy 7 (zI b D cy below args s G Q) 0 0 G S 18 [(0, .ref (b + v0)), (1, .int v1), (2, .int (v2')), (3, .int (v3'))] []) (h : f_X11_findFitted_122 G k18 v0 v1 v2 v3 v4 v5 Q v6 S) : J p l e rm_X11_findFitted s m args below meth c b D cy 7 (zI b D cy below args s G Q) 0 0 G S 122 [(0, .ref (b + v0)), (1, .int v1), (2, .int v2), (3, .int v3), (4, .int v4), (5, .int v5), (6, .int v6)] [] := by
  obtain ⟨n, h⟩ := h
  exact j_X11_findFitted_122_n C hE t_v0 hk18 n v6 S h
set_option maxHeartbeats 4000000 in
set_option maxRecDepth 100000 in
theorem j_X11_findFitted_101 {p : Program} {l : Launch} {e : Env} {s : State} {m : MethodId} {args : Array Value} {below : List Frame} {meth : Method} {c : Code} {b : Nat} {D : va_G} {cy : Nat → ClassId} {G : Gm} {k18 : Int32 → Int32 → St → Prop} {v0 : Nat} {v1 : Int32} {v2 : Int32} {v3 : Int32} {v4 : Int32} {S : St} {Q : Int32 → St → Prop} (C : CX p s m args meth c b D cy cX11_findFitted RX11 7 (some .int)) (hE : s.heap.size + 0 ≤ b + G.2.2) (t_v0 : ok G 10 v0) (hk18 : ∀ v2' v3' S, k18 v2' v3' S → J p l e rm_X11_findFitted s m args below meth c b D cy 7 (zI b D cy below args s G Q) 0 0 G S 18 [(0, .ref (b + v0)), (1, .int v1), (2, .int (v2')), (3, .int (v3'))] []) (h : f_X11_findFitted_101 G k18 v0 v1 v2 v3 v4 Q S) : J p l e rm_X11_findFitted s m args below meth c b D cy 7 (zI b D cy below args s G Q) 0 0 G S 101 [(0, .ref (b + v0)), (1, .int v1), (2, .int v2), (3, .int v3), (4, .int v4)] [] := by
  unfold f_X11_findFitted_101 at h
  refine jB C [(.iload_n 3, 1, 0), (.iload_n 1, 1, 0)] 103 [(0, .ref (b + v0)), (1, .int v1), (2, .int v2), (3, .int v3), (4, .int v4)] [.int v1, .int v3] (by decide +kernel) rfl rfl ?_
  refine jIcmp_ne C 106 116 (by decide +kernel : decode cX11_findFitted 103 = .ok (.if_icmp .ne 13, 3)) rfl rfl (fun c1 => ?_) (fun c1 => ?_)
  · have h := it2 h c1
    refine jB C [(.iconst 0, 1, 0), (.istore 5, 2, 0), (.iconst 0, 1, 0), (.istore 6, 2, 0)] 122 [(6, .int 0), (5, .int 0), (0, .ref (b + v0)), (1, .int v1), (2, .int v2), (3, .int v3), (4, .int v4)] [] (by decide +kernel) rfl rfl ?_
    refine jSub [2, 3, 4, 5, 6, 1, 0] rfl ?_
    exact j_X11_findFitted_122 C hE t_v0 hk18 h
  · have h := it1 h c1
    refine jB C [(.iload 4, 2, 0), (.iload_n 2, 1, 0)] 109 [(0, .ref (b + v0)), (1, .int v1), (2, .int v2), (3, .int v3), (4, .int v4)] [.int v2, .int v4] (by decide +kernel) rfl rfl ?_
    refine jIcmp_le C 112 116 (by decide +kernel : decode cX11_findFitted 109 = .ok (.if_icmp .le 7, 3)) rfl rfl (fun c2 => ?_) (fun c2 => ?_)
    · have h := it1 h c2
      refine jB C [(.iconst 0, 1, 0), (.istore 5, 2, 0), (.iconst 0, 1, 0), (.istore 6, 2, 0)] 122 [(6, .int 0), (5, .int 0), (0, .ref (b + v0)), (1, .int v1), (2, .int v2), (3, .int v3), (4, .int v4)] [] (by decide +kernel) rfl rfl ?_
      refine jSub [2, 3, 4, 5, 6, 1, 0] rfl ?_
      exact j_X11_findFitted_122 C hE t_v0 hk18 h
    · have h := it2 h c2
      refine jB C [(.iconst 1, 1, 1)] 113 [(0, .ref (b + v0)), (1, .int v1), (2, .int v2), (3, .int v3), (4, .int v4)] [.int 1] (by decide +kernel) rfl rfl ?_
      refine jGoto C 117 (by decide +kernel : decode cX11_findFitted 113 = .ok (.goto 4, 3)) rfl ?_
      refine jB C [(.istore 5, 2, 0), (.iconst 0, 1, 0), (.istore 6, 2, 0)] 122 [(6, .int 0), (5, .int 1), (0, .ref (b + v0)), (1, .int v1), (2, .int v2), (3, .int v3), (4, .int v4)] [] (by decide +kernel) rfl rfl ?_
      refine jSub [2, 3, 4, 5, 6, 1, 0] rfl ?_
      exact j_X11_findFitted_122 C hE t_v0 hk18 h
set_option maxHeartbeats 4000000 in
set_option maxRecDepth 100000 in
theorem j_X11_findFitted_53_n {p : Program} {l : Launch} {e : Env} {s : State} {m : MethodId} {args : Array Value} {below : List Frame} {meth : Method} {c : Code} {b : Nat} {D : va_G} {cy : Nat → ClassId} {G : Gm} {k18 : Int32 → Int32 → St → Prop} {v0 : Nat} {v1 : Int32} {v2 : Int32} {v3 : Int32} {Q : Int32 → St → Prop} (C : CX p s m args meth c b D cy cX11_findFitted RX11 7 (some .int)) (hE : s.heap.size + 0 ≤ b + G.2.2) (t_v0 : ok G 10 v0) (hk18 : ∀ v2' v3' S, k18 v2' v3' S → J p l e rm_X11_findFitted s m args below meth c b D cy 7 (zI b D cy below args s G Q) 0 0 G S 18 [(0, .ref (b + v0)), (1, .int v1), (2, .int (v2')), (3, .int (v3'))] []) : ∀ n (v4 : Int32) (v5 : Int32) S, f_X11_findFitted_53_n G k18 v0 v1 v2 v3 Q n v4 v5 S → J p l e rm_X11_findFitted s m args below meth c b D cy 7 (zI b D cy below args s G Q) 0 0 G S 53 [(0, .ref (b + v0)), (1, .int v1), (2, .int v2), (3, .int v3), (4, .int v4), (5, .int v5)] [] := by
  intro n
  induction n with
  | zero => intro v4 v5 S h; exact h.elim
  | succ n ih =>
    intro v4 v5 S h
    unfold f_X11_findFitted_53_n at h
    refine jB C [(.iload 5, 2, 0), (.iload_n 1, 1, 0)] 56 [(0, .ref (b + v0)), (1, .int v1), (2, .int v2), (3, .int v3), (4, .int v4), (5, .int v5)] [.int v1, .int v5] (by decide +kernel) rfl rfl ?_
    refine jIcmp_ge C 59 101 (by decide +kernel : decode cX11_findFitted 56 = .ok (.if_icmp .ge 45, 3)) rfl rfl (fun c1 => ?_) (fun c1 => ?_)
    · have h := it1 h c1
      refine jSub [0, 1, 2, 3, 4] rfl ?_
      exact j_X11_findFitted_101 C hE t_v0 hk18 h
    · have h := it2 h c1
      refine jB C [(.iload_n 3, 1, 0), (.iload_n 1, 1, 0)] 61 [(0, .ref (b + v0)), (1, .int v1), (2, .int v2), (3, .int v3), (4, .int v4), (5, .int v5)] [.int v1, .int v3] (by decide +kernel) rfl rfl ?_
      refine jIcmp_ne C 64 101 (by decide +kernel : decode cX11_findFitted 61 = .ok (.if_icmp .ne 40, 3)) rfl rfl (fun c2 => ?_) (fun c2 => ?_)
      · have h := it2 h c2
        refine jSub [0, 1, 2, 3, 4] rfl ?_
        exact j_X11_findFitted_101 C hE t_v0 hk18 h
      · have h := it1 h c2
        refine jB C [(.iload 4, 2, 0), (.aload_n 0, 1, 0)] 67 [(0, .ref (b + v0)), (1, .int v1), (2, .int v2), (3, .int v3), (4, .int v4), (5, .int v5)] [.ref (b + v0), .int v4] (by decide +kernel) rfl rfl ?_
        obtain ⟨a3, e_a3, h⟩ := h
        refine jGetR C 70 (by decide +kernel : decode cX11_findFitted 67 = .ok (.getfield 126, 3)) rfl t_v0 kX11 47 (by decide) rfl rfl (by decide) wd_1201 e_a3 rfl (fun t_a3 => ?_)
        refine jB C [(.bipush 6, 2, 6), (.iload 5, 2, 0), (.imul, 1, 0), (.aload_n 0, 1, 0)] 76 [(0, .ref (b + v0)), (1, .int v1), (2, .int v2), (3, .int v3), (4, .int v4), (5, .int v5)] [.ref (b + v0), .int (6 * v5), .ref (b + a3), .int v4] (by decide +kernel) rfl rfl ?_
        obtain ⟨a4, e_a4, h⟩ := h
        refine jGetR C 79 (by decide +kernel : decode cX11_findFitted 76 = .ok (.getfield 129, 3)) rfl t_v0 kX11 48 (by decide) rfl rfl (by decide) wd_1202 e_a4 rfl (fun t_a4 => ?_)
        refine jB C [(.iload 5, 2, 0)] 81 [(0, .ref (b + v0)), (1, .int v1), (2, .int v2), (3, .int v3), (4, .int v4), (5, .int v5)] [.int v5, .ref (b + a4), .int (6 * v5), .ref (b + a3), .int v4] (by decide +kernel) rfl rfl ?_
        obtain ⟨y5, h⟩ := h
        refine jIald C 82 (by decide +kernel : decode cX11_findFitted 81 = .ok (.iaload, 1)) rfl t_a4 y5 ?_
        refine jB C [(.iadd, 1, 0)] 83 [(0, .ref (b + v0)), (1, .int v1), (2, .int v2), (3, .int v3), (4, .int v4), (5, .int v5)] [.int ((6 * v5) + (S.1 a4 v5.toNatClampNeg)), .ref (b + a3), .int v4] (by decide +kernel) rfl rfl ?_
        obtain ⟨y6, h⟩ := h
        refine jZald C 84 (by decide +kernel : decode cX11_findFitted 83 = .ok (.baload, 1)) rfl t_a3 y6 ?_
        refine jIf_eq C 87 91 (by decide +kernel : decode cX11_findFitted 84 = .ok (.ifCond .eq 7, 3)) rfl rfl (fun c7 => ?_) (fun c7 => ?_)
        · have h := it1 h c7
          refine jB C [(.iconst 0, 1, 0), (.iadd, 1, 0)] 93 [(0, .ref (b + v0)), (1, .int v1), (2, .int v2), (3, .int v3), (4, .int v4), (5, .int v5)] [.int (v4 + 0)] (by decide +kernel) rfl rfl ?_
          refine jTopI (fun x8 e_x8 => ?_)
          have h := h x8 e_x8
          refine jB C [(.istore 4, 2, 0), (.iinc 5 1, 3, 1)] 98 [(5, .int (v5 + 1)), (4, .int x8), (0, .ref (b + v0)), (1, .int v1), (2, .int v2), (3, .int v3)] [] (by decide +kernel) rfl rfl ?_
          refine jGoto C 53 (by decide +kernel : decode cX11_findFitted 98 = .ok (.goto (-45), 3)) rfl ?_
          refine jSub [2, 3, 4, 5, 1, 0] rfl ?_
          exact ih x8 (v5 + 1) S h
        · have h := it2 h c7
          refine jB C [(.iconst 1, 1, 1)] 88 [(0, .ref (b + v0)), (1, .int v1), (2, .int v2), (3, .int v3), (4, .int v4), (5, .int v5)] [.int 1, .int v4] (by decide +kernel) rfl rfl ?_
          refine jGoto C 92 (by decide +kernel : decode cX11_findFitted 88 = .ok (.goto 4, 3)) rfl ?_
          refine jB C [(.iadd, 1, 0)] 93 [(0, .ref (b + v0)), (1, .int v1), (2, .int v2), (3, .int v3), (4, .int v4), (5, .int v5)] [.int (v4 + 1)] (by decide +kernel) rfl rfl ?_
          refine jTopI (fun x9 e_x9 => ?_)
          have h := h x9 e_x9
          refine jB C [(.istore 4, 2, 0), (.iinc 5 1, 3, 1)] 98 [(5, .int (v5 + 1)), (4, .int x9), (0, .ref (b + v0)), (1, .int v1), (2, .int v2), (3, .int v3)] [] (by decide +kernel) rfl rfl ?_
          refine jGoto C 53 (by decide +kernel : decode cX11_findFitted 98 = .ok (.goto (-45), 3)) rfl ?_
          refine jSub [2, 3, 4, 5, 1, 0] rfl ?_
          exact ih x9 (v5 + 1) S h
theorem j_X11_findFitted_53 {p : Program} {l : Launch} {e : Env} {s : State} {m : MethodId} {args : Array Value} {below : List Frame} {meth : Method} {c : Code} {b : Nat} {D : va_G} {cy : Nat → ClassId} {G : Gm} {k18 : Int32 → Int32 → St → Prop} {v0 : Nat} {v1 : Int32} {v2 : Int32} {v3 : Int32} {v4 : Int32} {v5 : Int32} {S : St} {Q : Int32 → St → Prop} (C : CX p s m args meth c b D cy cX11_findFitted RX11 7 (some .int)) (hE : s.heap.size + 0 ≤ b + G.2.2) (t_v0 : ok G 10 v0) (hk18 : ∀ v2' v3' S, k18 v2' v3' S → J p l e rm_X11_findFitted s m args below meth c b D cy 7 (zI b D cy below args s G Q) 0 0 G S 18 [(0, .ref (b + v0)), (1, .int v1), (2, .int (v2')), (3, .int (v3'))] []) (h : f_X11_findFitted_53 G k18 v0 v1 v2 v3 Q v4 v5 S) : J p l e rm_X11_findFitted s m args below meth c b D cy 7 (zI b D cy below args s G Q) 0 0 G S 53 [(0, .ref (b + v0)), (1, .int v1), (2, .int v2), (3, .int v3), (4, .int v4), (5, .int v5)] [] := by
  obtain ⟨n, h⟩ := h
  exact j_X11_findFitted_53_n C hE t_v0 hk18 n v4 v5 S h
set_option maxHeartbeats 4000000 in
set_option maxRecDepth 100000 in
theorem j_X11_findFitted_18_n {p : Program} {l : Launch} {e : Env} {s : State} {m : MethodId} {args : Array Value} {below : List Frame} {meth : Method} {c : Code} {b : Nat} {D : va_G} {cy : Nat → ClassId} {G : Gm} {v0 : Nat} {v1 : Int32} {Q : Int32 → St → Prop} (C : CX p s m args meth c b D cy cX11_findFitted RX11 7 (some .int)) (hE : s.heap.size + 0 ≤ b + G.2.2) (t_v0 : ok G 10 v0) : ∀ n (v2 : Int32) (v3 : Int32) S, f_X11_findFitted_18_n G v0 v1 Q n v2 v3 S → J p l e rm_X11_findFitted s m args below meth c b D cy 7 (zI b D cy below args s G Q) 0 0 G S 18 [(0, .ref (b + v0)), (1, .int v1), (2, .int v2), (3, .int v3)] [] := by
  intro n
  induction n with
  | zero => intro v2 v3 S h; exact h.elim
  | succ n ih =>
    intro v2 v3 S h
    unfold f_X11_findFitted_18_n at h
    refine jB C [(.iload_n 3, 1, 0)] 19 [(0, .ref (b + v0)), (1, .int v1), (2, .int v2), (3, .int v3)] [.int v3] (by decide +kernel) rfl rfl ?_
    refine jIf_lt C 22 192 (by decide +kernel : decode cX11_findFitted 19 = .ok (.ifCond .lt 173, 3)) rfl rfl (fun c1 => ?_) (fun c1 => ?_)
    · have h := it1 h c1
      refine jB C [(.iload_n 2, 1, 0)] 193 [(0, .ref (b + v0)), (1, .int v1), (2, .int v2), (3, .int v3)] [.int v2] (by decide +kernel) rfl rfl ?_
      exact jRetI C (by decide +kernel : decode cX11_findFitted 193 = .ok (.ireturn, 1)) (Nat.le_refl _) (Nat.le_refl _) ⟨rfl, h⟩
    · have h := it2 h c1
      refine jB C [(.aload_n 0, 1, 0)] 23 [(0, .ref (b + v0)), (1, .int v1), (2, .int v2), (3, .int v3)] [.ref (b + v0)] (by decide +kernel) rfl rfl ?_
      obtain ⟨a2, e_a2, h⟩ := h
      refine jGetR C 26 (by decide +kernel : decode cX11_findFitted 23 = .ok (.getfield 129, 3)) rfl t_v0 kX11 48 (by decide) rfl rfl (by decide) wd_1202 e_a2 rfl (fun t_a2 => ?_)
      refine jB C [(.iload_n 3, 1, 0), (.dup2, 1, 0)] 28 [(0, .ref (b + v0)), (1, .int v1), (2, .int v2), (3, .int v3)] [.int v3, .ref (b + a2), .int v3, .ref (b + a2)] (by decide +kernel) rfl rfl ?_
      obtain ⟨y3, h⟩ := h
      refine jIald C 29 (by decide +kernel : decode cX11_findFitted 28 = .ok (.iaload, 1)) rfl t_a2 y3 ?_
      refine jB C [(.iconst 1, 1, 1), (.iadd, 1, 0)] 31 [(0, .ref (b + v0)), (1, .int v1), (2, .int v2), (3, .int v3)] [.int ((S.1 a2 v3.toNatClampNeg) + 1), .int v3, .ref (b + a2)] (by decide +kernel) rfl rfl ?_
      obtain ⟨y4, h⟩ := h
      refine jIast C 32 (by decide +kernel : decode cX11_findFitted 31 = .ok (.iastore, 1)) rfl hE t_a2 y4 ?_
      refine jTopS (fun S5 e_S5 => ?_)
      have h := h S5 e_S5
      refine jB C [(.iload_n 3, 1, 0), (.iload_n 1, 1, 0)] 34 [(0, .ref (b + v0)), (1, .int v1), (2, .int v2), (3, .int v3)] [.int v1, .int v3] (by decide +kernel) rfl rfl ?_
      refine jIcmp_eq C 37 47 (by decide +kernel : decode cX11_findFitted 34 = .ok (.if_icmp .eq 13, 3)) rfl rfl (fun c6 => ?_) (fun c6 => ?_)
      · have h := it1 h c6
        refine jB C [(.iconst 0, 1, 0), (.istore 4, 2, 0), (.iconst 0, 1, 0), (.istore 5, 2, 0)] 53 [(5, .int 0), (4, .int 0), (0, .ref (b + v0)), (1, .int v1), (2, .int v2), (3, .int v3)] [] (by decide +kernel) rfl rfl ?_
        refine jSub [2, 3, 4, 5, 1, 0] rfl ?_
        exact j_X11_findFitted_53 C hE t_v0 ih h
      · have h := it2 h c6
        refine jB C [(.aload_n 0, 1, 0)] 38 [(0, .ref (b + v0)), (1, .int v1), (2, .int v2), (3, .int v3)] [.ref (b + v0)] (by decide +kernel) rfl rfl ?_
        obtain ⟨a7, e_a7, h⟩ := h
        refine jGetR C 41 (by decide +kernel : decode cX11_findFitted 38 = .ok (.getfield 129, 3)) rfl t_v0 kX11 48 (by decide) rfl rfl (by decide) wd_1202 e_a7 rfl (fun t_a7 => ?_)
        refine jB C [(.iload_n 3, 1, 0)] 42 [(0, .ref (b + v0)), (1, .int v1), (2, .int v2), (3, .int v3)] [.int v3, .ref (b + a7)] (by decide +kernel) rfl rfl ?_
        obtain ⟨y8, h⟩ := h
        refine jIald C 43 (by decide +kernel : decode cX11_findFitted 42 = .ok (.iaload, 1)) rfl t_a7 y8 ?_
        refine jB C [(.iload_n 1, 1, 0)] 44 [(0, .ref (b + v0)), (1, .int v1), (2, .int v2), (3, .int v3)] [.int v1, .int (S5.1 a7 v3.toNatClampNeg)] (by decide +kernel) rfl rfl ?_
        refine jIcmp_lt C 47 171 (by decide +kernel : decode cX11_findFitted 44 = .ok (.if_icmp .lt 127, 3)) rfl rfl (fun c9 => ?_) (fun c9 => ?_)
        · have h := it1 h c9
          refine jB C [(.aload_n 0, 1, 0), (.iload_n 3, 1, 0)] 173 [(0, .ref (b + v0)), (1, .int v1), (2, .int v2), (3, .int v3)] [.int v3, .ref (b + v0)] (by decide +kernel) rfl rfl ?_
          refine jcV_I C 176 (rest := []) (ok_X11_isNew t_v0 h) (by decide +kernel : decode cX11_findFitted 173 = .ok (.invokevirtual 508, 3)) rfl wd_1756 wd_1758 wp_160 wd_12 wd_1759 ⟨rfl, rfl⟩ hd_X11_isNew ⟨Nat.le_of_ble_eq_true rfl, Nat.le_of_ble_eq_true rfl⟩ t_v0 kX11 (by decide) rfl rfl rfl (Nat.le_of_ble_eq_true rfl) ⟨Nat.zero_le _, Nat.zero_le _⟩ (fun r11 S10 h => ?_)
          refine jIf_eq C 179 18 (by decide +kernel : decode cX11_findFitted 176 = .ok (.ifCond .eq (-158), 3)) rfl rfl (fun c12 => ?_) (fun c12 => ?_)
          · have h := it1 h c12
            refine jSub [0, 1, 2, 3] rfl ?_
            exact ih v2 v3 S10 h
          · have h := it2 h c12
            refine jB C [(.iinc 3 1, 3, 1), (.aload_n 0, 1, 0)] 183 [(3, .int (v3 + 1)), (0, .ref (b + v0)), (1, .int v1), (2, .int v2)] [.ref (b + v0)] (by decide +kernel) rfl rfl ?_
            obtain ⟨a13, e_a13, h⟩ := h
            refine jGetR C 186 (by decide +kernel : decode cX11_findFitted 183 = .ok (.getfield 129, 3)) rfl t_v0 kX11 48 (by decide) rfl rfl (by decide) wd_1202 e_a13 rfl (fun t_a13 => ?_)
            refine jB C [(.iload_n 3, 1, 0), (.iconst (-1), 1, (-1))] 188 [(3, .int (v3 + 1)), (0, .ref (b + v0)), (1, .int v1), (2, .int v2)] [.int (-1), .int (v3 + 1), .ref (b + a13)] (by decide +kernel) rfl rfl ?_
            obtain ⟨y14, h⟩ := h
            refine jIast C 189 (by decide +kernel : decode cX11_findFitted 188 = .ok (.iastore, 1)) rfl hE t_a13 y14 ?_
            refine jTopS (fun S15 e_S15 => ?_)
            have h := h S15 e_S15
            refine jGoto C 18 (by decide +kernel : decode cX11_findFitted 189 = .ok (.goto (-171), 3)) rfl ?_
            refine jSub [1, 2, 3, 0] rfl ?_
            exact ih v2 (v3 + 1) S15 h
        · have h := it2 h c9
          refine jB C [(.iconst 0, 1, 0), (.istore 4, 2, 0), (.iconst 0, 1, 0), (.istore 5, 2, 0)] 53 [(5, .int 0), (4, .int 0), (0, .ref (b + v0)), (1, .int v1), (2, .int v2), (3, .int v3)] [] (by decide +kernel) rfl rfl ?_
          refine jSub [2, 3, 4, 5, 1, 0] rfl ?_
          exact j_X11_findFitted_53 C hE t_v0 ih h
theorem j_X11_findFitted_18 {p : Program} {l : Launch} {e : Env} {s : State} {m : MethodId} {args : Array Value} {below : List Frame} {meth : Method} {c : Code} {b : Nat} {D : va_G} {cy : Nat → ClassId} {G : Gm} {v0 : Nat} {v1 : Int32} {v2 : Int32} {v3 : Int32} {S : St} {Q : Int32 → St → Prop} (C : CX p s m args meth c b D cy cX11_findFitted RX11 7 (some .int)) (hE : s.heap.size + 0 ≤ b + G.2.2) (t_v0 : ok G 10 v0) (h : f_X11_findFitted_18 G v0 v1 Q v2 v3 S) : J p l e rm_X11_findFitted s m args below meth c b D cy 7 (zI b D cy below args s G Q) 0 0 G S 18 [(0, .ref (b + v0)), (1, .int v1), (2, .int v2), (3, .int v3)] [] := by
  obtain ⟨n, h⟩ := h
  exact j_X11_findFitted_18_n C hE t_v0 n v2 v3 S h
set_option maxHeartbeats 4000000 in
set_option maxRecDepth 100000 in
theorem j_X11_findFitted {p : Program} {l : Launch} {e : Env} {s : State} {m : MethodId} {args : Array Value} {below : List Frame} {meth : Method} {c : Code} {b : Nat} {D : va_G} {cy : Nat → ClassId} {G : Gm} {v0 : Nat} {S : St} {Q : Int32 → St → Prop} (C : CX p s m args meth c b D cy cX11_findFitted RX11 7 (some .int)) (hE : s.heap.size + 0 ≤ b + G.2.2) (t_v0 : ok G 10 v0) (h : f_X11_findFitted G v0 Q S) : J p l e rm_X11_findFitted s m args below meth c b D cy 7 (zI b D cy below args s G Q) 0 0 G S 0 [(0, .ref (b + v0))] [] := by
  unfold f_X11_findFitted at h
  refine jB C [(.aload_n 0, 1, 0)] 1 [(0, .ref (b + v0))] [.ref (b + v0)] (by decide +kernel) rfl rfl ?_
  obtain ⟨a1, e_a1, h⟩ := h
  refine jGetR C 4 (by decide +kernel : decode cX11_findFitted 1 = .ok (.getfield 16, 3)) rfl t_v0 kX11 4 (by decide) rfl rfl (by decide) wd_1158 e_a1 rfl (fun t_a1 => ?_)
  refine jB C [(.iconst 0, 1, 0)] 5 [(0, .ref (b + v0))] [.int 0, .ref (b + a1)] (by decide +kernel) rfl rfl ?_
  obtain ⟨y2, h⟩ := h
  refine jIald C 6 (by decide +kernel : decode cX11_findFitted 5 = .ok (.iaload, 1)) rfl t_a1 y2 ?_
  refine jTopI (fun x3 e_x3 => ?_)
  have h := h x3 e_x3
  refine jB C [(.istore_n 1, 1, 0), (.iconst (-1), 1, (-1)), (.istore_n 2, 1, 0), (.iconst 0, 1, 0), (.istore_n 3, 1, 0), (.aload_n 0, 1, 0)] 12 [(3, .int 0), (2, .int (-1)), (1, .int x3), (0, .ref (b + v0))] [.ref (b + v0)] (by decide +kernel) rfl rfl ?_
  obtain ⟨a4, e_a4, h⟩ := h
  refine jGetR C 15 (by decide +kernel : decode cX11_findFitted 12 = .ok (.getfield 129, 3)) rfl t_v0 kX11 48 (by decide) rfl rfl (by decide) wd_1202 e_a4 rfl (fun t_a4 => ?_)
  refine jB C [(.iconst 0, 1, 0), (.iconst (-1), 1, (-1))] 17 [(3, .int 0), (2, .int (-1)), (1, .int x3), (0, .ref (b + v0))] [.int (-1), .int 0, .ref (b + a4)] (by decide +kernel) rfl rfl ?_
  obtain ⟨y5, h⟩ := h
  refine jIast C 18 (by decide +kernel : decode cX11_findFitted 17 = .ok (.iastore, 1)) rfl hE t_a4 y5 ?_
  refine jTopS (fun S6 e_S6 => ?_)
  have h := h S6 e_S6
  refine jSub [3, 2, 1, 0] rfl ?_
  exact j_X11_findFitted_18 C hE t_v0 h
theorem ok_X11_findFitted {G : Gm} {v0 : Nat} {S : St} {Q : Int32 → St → Prop} (t_v0 : ok G 10 v0) (h : f_X11_findFitted G v0 Q S) : MT yX11_findFitted cX11_findFitted 7 (some .int) rm_X11_findFitted 0 0 (fun b => [.ref (b + v0)]) G S (QI (fun r G1 S1 => G1 = G ∧ Q r S1)) := MT.ofJ (by decide) (fun b => [(0, .ref (b + v0))]) (fun b => rfl) (fun b => Nat.le_of_ble_eq_true rfl) (fun l b D cy p e s m below meth c C hE hn => j_X11_findFitted C hE t_v0 h)
theorem hd_X11_findFitted : yX11_findFitted.cls ≠ "java/lang/invoke/MethodHandle" ∧ yX11_findFitted.cls ≠ "java/lang/invoke/VarHandle" ∧ (parseMethodDescriptor yX11_findFitted.desc).map (fun d => d.parameters.length) = some 0 := by decide +kernel
def f_X11_layFitted_61 (G : Gm) (k2 : Int32 → St → Prop) (k14 : Int32 → St → Prop) (v0 : Nat) (v1 : Int32) (v2 : Int32) (u0 : Int32) (u1 : Int32) (u2 : Nat) (Q : St → Prop) (S : St) : Prop :=
  (vp_in u1 (G.2.1 u2) ∧ (u0 = 0 ∨ u0 = 1) ∧ ∀ S2, S2 = uI S u2 u1.toNatClampNeg u0 → k14 (v2 + 1) S2)
def f_X11_layFitted_14_n (G : Gm) (k2 : Int32 → St → Prop) (v0 : Nat) (v1 : Int32) (Q : St → Prop) : Nat → Int32 → St → Prop
  | 0, _, _ => False
  | n + 1, v2, S => (∃ a1, S.2.2 v0 4 = some a1 ∧ (vp_in 0 (G.2.1 a1) ∧ (if (S.1 a1 0.toNatClampNeg) ≤ v2 then k2 (v1 + 1) S else (∃ a4, S.2.2 v0 47 = some a4 ∧ f_X11_sightOf G v0 v2 (fun r6 S5 => f_X11_doesOf G v0 v1 r6 (fun r8 S7 => (∃ a9, S7.2.2 v0 4 = some a9 ∧ (vp_in (62 + v1) (G.2.1 a9) ∧ (if r8 = (S7.1 a9 (62 + v1).toNatClampNeg) then f_X11_layFitted_61 G k2 (f_X11_layFitted_14_n G k2 v0 v1 Q n) v0 v1 v2 1 ((6 * v1) + v2) a4 Q S7 else f_X11_layFitted_61 G k2 (f_X11_layFitted_14_n G k2 v0 v1 Q n) v0 v1 v2 0 ((6 * v1) + v2) a4 Q S7)))) S5) S))))
def f_X11_layFitted_14 (G : Gm) (k2 : Int32 → St → Prop) (v0 : Nat) (v1 : Int32) (Q : St → Prop) (v2 : Int32) (S : St) : Prop := ∃ n, f_X11_layFitted_14_n G k2 v0 v1 Q n v2 S
def f_X11_layFitted_2_n (G : Gm) (v0 : Nat) (Q : St → Prop) : Nat → Int32 → St → Prop
  | 0, _, _ => False
  | n + 1, v1, S => (∃ a1, S.2.2 v0 4 = some a1 ∧ (vp_in 0 (G.2.1 a1) ∧ (if (S.1 a1 0.toNatClampNeg) ≤ v1 then Q S else f_X11_layFitted_14 G (f_X11_layFitted_2_n G v0 Q n) v0 v1 Q 0 S)))
def f_X11_layFitted_2 (G : Gm) (v0 : Nat) (Q : St → Prop) (v1 : Int32) (S : St) : Prop := ∃ n, f_X11_layFitted_2_n G v0 Q n v1 S
def f_X11_layFitted (G : Gm) (v0 : Nat) (Q : St → Prop) (S : St) : Prop :=
  f_X11_layFitted_2 G v0 Q 0 S
abbrev rm_X11_layFitted : Room := { frames := 7, cells := 0, slots := 0, locals := 165 }
set_option maxHeartbeats 4000000 in
set_option maxRecDepth 100000 in
theorem j_X11_layFitted_61 {p : Program} {l : Launch} {e : Env} {s : State} {m : MethodId} {args : Array Value} {below : List Frame} {meth : Method} {c : Code} {b : Nat} {D : va_G} {cy : Nat → ClassId} {G : Gm} {k2 : Int32 → St → Prop} {k14 : Int32 → St → Prop} {v0 : Nat} {v1 : Int32} {v2 : Int32} {u0 : Int32} {u1 : Int32} {u2 : Nat} {S : St} {Q : St → Prop} (C : CX p s m args meth c b D cy cX11_layFitted RX11 3 none) (hE : s.heap.size + 0 ≤ b + G.2.2) (t_v0 : ok G 10 v0) (t_u2 : ok G 13 u2) (hk2 : ∀ v1' S, k2 v1' S → J p l e rm_X11_layFitted s m args below meth c b D cy 3 (zV b D cy below args s G Q) 0 0 G S 2 [(0, .ref (b + v0)), (1, .int (v1'))] []) (hk14 : ∀ v2' S, k14 v2' S → J p l e rm_X11_layFitted s m args below meth c b D cy 3 (zV b D cy below args s G Q) 0 0 G S 14 [(0, .ref (b + v0)), (1, .int v1), (2, .int (v2'))] []) (h : f_X11_layFitted_61 G k2 k14 v0 v1 v2 u0 u1 u2 Q S) : J p l e rm_X11_layFitted s m args below meth c b D cy 3 (zV b D cy below args s G Q) 0 0 G S 61 [(0, .ref (b + v0)), (1, .int v1), (2, .int v2)] [.int u0, .int u1, .ref (b + u2)] := by
  unfold f_X11_layFitted_61 at h
  obtain ⟨y1, z3, h⟩ := h
  refine jZast C 62 (by decide +kernel : decode cX11_layFitted 61 = .ok (.bastore, 1)) rfl hE t_u2 y1 z3 ?_
  refine jTopS (fun S2 e_S2 => ?_)
  have h := h S2 e_S2
  refine jB C [(.iinc 2 1, 3, 1)] 65 [(2, .int (v2 + 1)), (0, .ref (b + v0)), (1, .int v1)] [] (by decide +kernel) rfl rfl ?_
  refine jGoto C 14 (by decide +kernel : decode cX11_layFitted 65 = .ok (.goto (-51), 3)) rfl ?_
  refine jSub [1, 2, 0] rfl ?_
  exact hk14 (v2 + 1) S2 h
set_option maxHeartbeats 4000000 in
set_option maxRecDepth 100000 in
theorem j_X11_layFitted_14_n {p : Program} {l : Launch} {e : Env} {s : State} {m : MethodId} {args : Array Value} {below : List Frame} {meth : Method} {c : Code} {b : Nat} {D : va_G} {cy : Nat → ClassId} {G : Gm} {k2 : Int32 → St → Prop} {v0 : Nat} {v1 : Int32} {Q : St → Prop} (C : CX p s m args meth c b D cy cX11_layFitted RX11 3 none) (hE : s.heap.size + 0 ≤ b + G.2.2) (t_v0 : ok G 10 v0) (hk2 : ∀ v1' S, k2 v1' S → J p l e rm_X11_layFitted s m args below meth c b D cy 3 (zV b D cy below args s G Q) 0 0 G S 2 [(0, .ref (b + v0)), (1, .int (v1'))] []) : ∀ n (v2 : Int32) S, f_X11_layFitted_14_n G k2 v0 v1 Q n v2 S → J p l e rm_X11_layFitted s m args below meth c b D cy 3 (zV b D cy below args s G Q) 0 0 G S 14 [(0, .ref (b + v0)), (1, .int v1), (2, .int v2)] [] := by
  intro n
  induction n with
  | zero => intro v2 S h; exact h.elim
  | succ n ih =>
    intro v2 S h
    unfold f_X11_layFitted_14_n at h
    refine jB C [(.iload_n 2, 1, 0), (.aload_n 0, 1, 0)] 16 [(0, .ref (b + v0)), (1, .int v1), (2, .int v2)] [.ref (b + v0), .int v2] (by decide +kernel) rfl rfl ?_
    obtain ⟨a1, e_a1, h⟩ := h
    refine jGetR C 19 (by decide +kernel : decode cX11_layFitted 16 = .ok (.getfield 16, 3)) rfl t_v0 kX11 4 (by decide) rfl rfl (by decide) wd_1158 e_a1 rfl (fun t_a1 => ?_)
    refine jB C [(.iconst 0, 1, 0)] 20 [(0, .ref (b + v0)), (1, .int v1), (2, .int v2)] [.int 0, .ref (b + a1), .int v2] (by decide +kernel) rfl rfl ?_
    obtain ⟨y2, h⟩ := h
    refine jIald C 21 (by decide +kernel : decode cX11_layFitted 20 = .ok (.iaload, 1)) rfl t_a1 y2 ?_
    refine jIcmp_ge C 24 68 (by decide +kernel : decode cX11_layFitted 21 = .ok (.if_icmp .ge 47, 3)) rfl rfl (fun c3 => ?_) (fun c3 => ?_)
    · have h := it1 h c3
      refine jB C [(.iinc 1 1, 3, 1)] 71 [(1, .int (v1 + 1)), (0, .ref (b + v0)), (2, .int v2)] [] (by decide +kernel) rfl rfl ?_
      refine jGoto C 2 (by decide +kernel : decode cX11_layFitted 71 = .ok (.goto (-69), 3)) rfl ?_
      refine jSub [1, 0] rfl ?_
      exact hk2 (v1 + 1) S h
    · have h := it2 h c3
      refine jB C [(.aload_n 0, 1, 0)] 25 [(0, .ref (b + v0)), (1, .int v1), (2, .int v2)] [.ref (b + v0)] (by decide +kernel) rfl rfl ?_
      obtain ⟨a4, e_a4, h⟩ := h
      refine jGetR C 28 (by decide +kernel : decode cX11_layFitted 25 = .ok (.getfield 126, 3)) rfl t_v0 kX11 47 (by decide) rfl rfl (by decide) wd_1201 e_a4 rfl (fun t_a4 => ?_)
      refine jB C [(.bipush 6, 2, 6), (.iload_n 1, 1, 0), (.imul, 1, 0), (.iload_n 2, 1, 0), (.iadd, 1, 0), (.aload_n 0, 1, 0), (.iload_n 1, 1, 0), (.aload_n 0, 1, 0), (.iload_n 2, 1, 0)] 38 [(0, .ref (b + v0)), (1, .int v1), (2, .int v2)] [.int v2, .ref (b + v0), .int v1, .ref (b + v0), .int ((6 * v1) + v2), .ref (b + a4)] (by decide +kernel) rfl rfl ?_
      refine jcV_I C 41 (rest := [.int v1, .ref (b + v0), .int ((6 * v1) + v2), .ref (b + a4)]) (ok_X11_sightOf t_v0 h) (by decide +kernel : decode cX11_layFitted 38 = .ok (.invokevirtual 215, 3)) rfl wd_1386 wd_1388 wp_105 wd_12 wd_1389 ⟨rfl, rfl⟩ hd_X11_sightOf ⟨Nat.le_of_ble_eq_true rfl, Nat.le_of_ble_eq_true rfl⟩ t_v0 kX11 (by decide) rfl rfl rfl (Nat.le_of_ble_eq_true rfl) ⟨Nat.zero_le _, Nat.zero_le _⟩ (fun r6 S5 h => ?_)
      refine jcV_I C 44 (rest := [.int ((6 * v1) + v2), .ref (b + a4)]) (ok_X11_doesOf t_v0 h) (by decide +kernel : decode cX11_layFitted 41 = .ok (.invokevirtual 218, 3)) rfl wd_1394 wd_1396 wp_107 wd_12 wd_1397 ⟨rfl, rfl⟩ hd_X11_doesOf ⟨Nat.le_of_ble_eq_true rfl, Nat.le_of_ble_eq_true rfl⟩ t_v0 kX11 (by decide) rfl rfl rfl (Nat.le_of_ble_eq_true rfl) ⟨Nat.zero_le _, Nat.zero_le _⟩ (fun r8 S7 h => ?_)
      refine jB C [(.aload_n 0, 1, 0)] 45 [(0, .ref (b + v0)), (1, .int v1), (2, .int v2)] [.ref (b + v0), .int r8, .int ((6 * v1) + v2), .ref (b + a4)] (by decide +kernel) rfl rfl ?_
      obtain ⟨a9, e_a9, h⟩ := h
      refine jGetR C 48 (by decide +kernel : decode cX11_layFitted 45 = .ok (.getfield 16, 3)) rfl t_v0 kX11 4 (by decide) rfl rfl (by decide) wd_1158 e_a9 rfl (fun t_a9 => ?_)
      refine jB C [(.bipush 62, 2, 62), (.iload_n 1, 1, 0), (.iadd, 1, 0)] 52 [(0, .ref (b + v0)), (1, .int v1), (2, .int v2)] [.int (62 + v1), .ref (b + a9), .int r8, .int ((6 * v1) + v2), .ref (b + a4)] (by decide +kernel) rfl rfl ?_
      obtain ⟨y10, h⟩ := h
      refine jIald C 53 (by decide +kernel : decode cX11_layFitted 52 = .ok (.iaload, 1)) rfl t_a9 y10 ?_
      refine jIcmp_ne C 56 60 (by decide +kernel : decode cX11_layFitted 53 = .ok (.if_icmp .ne 7, 3)) rfl rfl (fun c11 => ?_) (fun c11 => ?_)
      · have h := it2 h c11
        refine jB C [(.iconst 0, 1, 0)] 61 [(0, .ref (b + v0)), (1, .int v1), (2, .int v2)] [.int 0, .int ((6 * v1) + v2), .ref (b + a4)] (by decide +kernel) rfl rfl ?_
        refine jSub [0, 1, 2] rfl ?_
        exact j_X11_layFitted_61 C hE t_v0 t_a4 hk2 ih h
      · have h := it1 h c11
        refine jB C [(.iconst 1, 1, 1)] 57 [(0, .ref (b + v0)), (1, .int v1), (2, .int v2)] [.int 1, .int ((6 * v1) + v2), .ref (b + a4)] (by decide +kernel) rfl rfl ?_
        refine jGoto C 61 (by decide +kernel : decode cX11_layFitted 57 = .ok (.goto 4, 3)) rfl ?_
        refine jSub [0, 1, 2] rfl ?_
        exact j_X11_layFitted_61 C hE t_v0 t_a4 hk2 ih h
theorem j_X11_layFitted_14 {p : Program} {l : Launch} {e : Env} {s : State} {m : MethodId} {args : Array Value} {below : List Frame} {meth : Method} {c : Code} {b : Nat} {D : va_G} {cy : Nat → ClassId} {G : Gm} {k2 : Int32 → St → Prop} {v0 : Nat} {v1 : Int32} {v2 : Int32} {S : St} {Q : St → Prop} (C : CX p s m args meth c b D cy cX11_layFitted RX11 3 none) (hE : s.heap.size + 0 ≤ b + G.2.2) (t_v0 : ok G 10 v0) (hk2 : ∀ v1' S, k2 v1' S → J p l e rm_X11_layFitted s m args below meth c b D cy 3 (zV b D cy below args s G Q) 0 0 G S 2 [(0, .ref (b + v0)), (1, .int (v1'))] []) (h : f_X11_layFitted_14 G k2 v0 v1 Q v2 S) : J p l e rm_X11_layFitted s m args below meth c b D cy 3 (zV b D cy below args s G Q) 0 0 G S 14 [(0, .ref (b + v0)), (1, .int v1), (2, .int v2)] [] := by
  obtain ⟨n, h⟩ := h
  exact j_X11_layFitted_14_n C hE t_v0 hk2 n v2 S h
set_option maxHeartbeats 4000000 in
set_option maxRecDepth 100000 in
theorem j_X11_layFitted_2_n {p : Program} {l : Launch} {e : Env} {s : State} {m : MethodId} {args : Array Value} {below : List Frame} {meth : Method} {c : Code} {b : Nat} {D : va_G} {cy : Nat → ClassId} {G : Gm} {v0 : Nat} {Q : St → Prop} (C : CX p s m args meth c b D cy cX11_layFitted RX11 3 none) (hE : s.heap.size + 0 ≤ b + G.2.2) (t_v0 : ok G 10 v0) : ∀ n (v1 : Int32) S, f_X11_layFitted_2_n G v0 Q n v1 S → J p l e rm_X11_layFitted s m args below meth c b D cy 3 (zV b D cy below args s G Q) 0 0 G S 2 [(0, .ref (b + v0)), (1, .int v1)] [] := by
  intro n
  induction n with
  | zero => intro v1 S h; exact h.elim
  | succ n ih =>
    intro v1 S h
    unfold f_X11_layFitted_2_n at h
    refine jB C [(.iload_n 1, 1, 0), (.aload_n 0, 1, 0)] 4 [(0, .ref (b + v0)), (1, .int v1)] [.ref (b + v0), .int v1] (by decide +kernel) rfl rfl ?_
    obtain ⟨a1, e_a1, h⟩ := h
    refine jGetR C 7 (by decide +kernel : decode cX11_layFitted 4 = .ok (.getfield 16, 3)) rfl t_v0 kX11 4 (by decide) rfl rfl (by decide) wd_1158 e_a1 rfl (fun t_a1 => ?_)
    refine jB C [(.iconst 0, 1, 0)] 8 [(0, .ref (b + v0)), (1, .int v1)] [.int 0, .ref (b + a1), .int v1] (by decide +kernel) rfl rfl ?_
    obtain ⟨y2, h⟩ := h
    refine jIald C 9 (by decide +kernel : decode cX11_layFitted 8 = .ok (.iaload, 1)) rfl t_a1 y2 ?_
    refine jIcmp_ge C 12 74 (by decide +kernel : decode cX11_layFitted 9 = .ok (.if_icmp .ge 65, 3)) rfl rfl (fun c3 => ?_) (fun c3 => ?_)
    · have h := it1 h c3
      exact jRetV C (by decide +kernel : decode cX11_layFitted 74 = .ok (.return_, 1)) (Nat.le_refl _) (Nat.le_refl _) ⟨rfl, h⟩
    · have h := it2 h c3
      refine jB C [(.iconst 0, 1, 0), (.istore_n 2, 1, 0)] 14 [(2, .int 0), (0, .ref (b + v0)), (1, .int v1)] [] (by decide +kernel) rfl rfl ?_
      refine jSub [1, 2, 0] rfl ?_
      exact j_X11_layFitted_14 C hE t_v0 ih h
theorem j_X11_layFitted_2 {p : Program} {l : Launch} {e : Env} {s : State} {m : MethodId} {args : Array Value} {below : List Frame} {meth : Method} {c : Code} {b : Nat} {D : va_G} {cy : Nat → ClassId} {G : Gm} {v0 : Nat} {v1 : Int32} {S : St} {Q : St → Prop} (C : CX p s m args meth c b D cy cX11_layFitted RX11 3 none) (hE : s.heap.size + 0 ≤ b + G.2.2) (t_v0 : ok G 10 v0) (h : f_X11_layFitted_2 G v0 Q v1 S) : J p l e rm_X11_layFitted s m args below meth c b D cy 3 (zV b D cy below args s G Q) 0 0 G S 2 [(0, .ref (b + v0)), (1, .int v1)] [] := by
  obtain ⟨n, h⟩ := h
  exact j_X11_layFitted_2_n C hE t_v0 n v1 S h
set_option maxHeartbeats 4000000 in
set_option maxRecDepth 100000 in
theorem j_X11_layFitted {p : Program} {l : Launch} {e : Env} {s : State} {m : MethodId} {args : Array Value} {below : List Frame} {meth : Method} {c : Code} {b : Nat} {D : va_G} {cy : Nat → ClassId} {G : Gm} {v0 : Nat} {S : St} {Q : St → Prop} (C : CX p s m args meth c b D cy cX11_layFitted RX11 3 none) (hE : s.heap.size + 0 ≤ b + G.2.2) (t_v0 : ok G 10 v0) (h : f_X11_layFitted G v0 Q S) : J p l e rm_X11_layFitted s m args below meth c b D cy 3 (zV b D cy below args s G Q) 0 0 G S 0 [(0, .ref (b + v0))] [] := by
  unfold f_X11_layFitted at h
  refine jB C [(.iconst 0, 1, 0), (.istore_n 1, 1, 0)] 2 [(1, .int 0), (0, .ref (b + v0))] [] (by decide +kernel) rfl rfl ?_
  refine jSub [1, 0] rfl ?_
  exact j_X11_layFitted_2 C hE t_v0 h
theorem ok_X11_layFitted {G : Gm} {v0 : Nat} {S : St} {Q : St → Prop} (t_v0 : ok G 10 v0) (h : f_X11_layFitted G v0 Q S) : MT yX11_layFitted cX11_layFitted 3 none rm_X11_layFitted 0 0 (fun b => [.ref (b + v0)]) G S (QV (fun G1 S1 => G1 = G ∧ Q S1)) := MT.ofJ (by decide) (fun b => [(0, .ref (b + v0))]) (fun b => rfl) (fun b => Nat.le_of_ble_eq_true rfl) (fun l b D cy p e s m below meth c C hE hn => j_X11_layFitted C hE t_v0 h)
theorem hd_X11_layFitted : yX11_layFitted.cls ≠ "java/lang/invoke/MethodHandle" ∧ yX11_layFitted.cls ≠ "java/lang/invoke/VarHandle" ∧ (parseMethodDescriptor yX11_layFitted.desc).map (fun d => d.parameters.length) = some 0 := by decide +kernel
def f_X11_fitted (G : Gm) (v0 : Nat) (v1 : Int32) (Q : Int32 → St → Prop) (S : St) : Prop :=
  (∀ S1, S1 = uI S v0 0 0 → (∃ a2, S1.2.2 v0 4 = some a2 ∧ (vp_in 0 (G.2.1 a2) ∧ f_X11_in G v1.toInt64 0 ((S1.1 a2 0.toNatClampNeg).toInt64) (fun r5 S4 => (if r5 = 0 then Q (-1) S4 else f_X11_layFitted G v0 (fun S7 => f_X11_findFitted G v0 (fun r9 S8 => (if v1 = 0 then Q r9 S8 else (∃ a11, S8.2.2 v0 49 = some a11 ∧ (vp_in (v1 - 1) (G.2.1 a11) ∧ Q (S8.1 a11 (v1 - 1).toNatClampNeg) S8)))) S7) S4)) S1)))
abbrev rm_X11_fitted : Room := { frames := 8, cells := 0, slots := 0, locals := 187 }
set_option maxHeartbeats 4000000 in
set_option maxRecDepth 100000 in
theorem j_X11_fitted {p : Program} {l : Launch} {e : Env} {s : State} {m : MethodId} {args : Array Value} {below : List Frame} {meth : Method} {c : Code} {b : Nat} {D : va_G} {cy : Nat → ClassId} {G : Gm} {v0 : Nat} {v1 : Int32} {S : St} {Q : Int32 → St → Prop} (C : CX p s m args meth c b D cy cX11_fitted RX11 3 (some .int)) (hE : s.heap.size + 0 ≤ b + G.2.2) (t_v0 : ok G 10 v0) (h : f_X11_fitted G v0 v1 Q S) : J p l e rm_X11_fitted s m args below meth c b D cy 3 (zI b D cy below args s G Q) 0 0 G S 0 [(0, .ref (b + v0)), (1, .int v1)] [] := by
  unfold f_X11_fitted at h
  refine jB C [(.aload_n 0, 1, 0), (.iconst 0, 1, 0)] 2 [(0, .ref (b + v0)), (1, .int v1)] [.int 0, .ref (b + v0)] (by decide +kernel) rfl rfl ?_
  refine jPutI C 5 (by decide +kernel : decode cX11_fitted 2 = .ok (.putfield 165, 3)) rfl hE t_v0 kX11 0 (by decide) rfl rfl (by decide) rfl wd_1154 rfl rfl rfl ?_
  refine jTopS (fun S1 e_S1 => ?_)
  have h := h S1 e_S1
  refine jB C [(.iload_n 1, 1, 0), (.i2l, 1, 0), (.lconst 0, 1, 0), (.aload_n 0, 1, 0)] 9 [(0, .ref (b + v0)), (1, .int v1)] [.ref (b + v0), .long 0, .long v1.toInt64] (by decide +kernel) rfl rfl ?_
  obtain ⟨a2, e_a2, h⟩ := h
  refine jGetR C 12 (by decide +kernel : decode cX11_fitted 9 = .ok (.getfield 16, 3)) rfl t_v0 kX11 4 (by decide) rfl rfl (by decide) wd_1158 e_a2 rfl (fun t_a2 => ?_)
  refine jB C [(.iconst 0, 1, 0)] 13 [(0, .ref (b + v0)), (1, .int v1)] [.int 0, .ref (b + a2), .long 0, .long v1.toInt64] (by decide +kernel) rfl rfl ?_
  obtain ⟨y3, h⟩ := h
  refine jIald C 14 (by decide +kernel : decode cX11_fitted 13 = .ok (.iaload, 1)) rfl t_a2 y3 ?_
  refine jB C [(.i2l, 1, 0)] 15 [(0, .ref (b + v0)), (1, .int v1)] [.long ((S1.1 a2 0.toNatClampNeg).toInt64), .long 0, .long v1.toInt64] (by decide +kernel) rfl rfl ?_
  refine jcS_I C 18 (rest := []) (ok_X11_in h) (by decide +kernel : decode cX11_fitted 15 = .ok (.invokestatic 185, 3)) rfl wd_1352 wd_1353 wd_12 wd_1354 ⟨rfl, rfl⟩ hd_X11_in ⟨Nat.le_of_ble_eq_true rfl, Nat.le_of_ble_eq_true rfl⟩ rfl rfl (Nat.le_of_ble_eq_true rfl) ⟨Nat.zero_le _, Nat.zero_le _⟩ (fun r5 S4 h => ?_)
  refine jIf_ne C 21 23 (by decide +kernel : decode cX11_fitted 18 = .ok (.ifCond .ne 5, 3)) rfl rfl (fun c6 => ?_) (fun c6 => ?_)
  · have h := it2 h c6
    refine jB C [(.aload_n 0, 1, 0)] 24 [(0, .ref (b + v0)), (1, .int v1)] [.ref (b + v0)] (by decide +kernel) rfl rfl ?_
    refine jcV_V C 27 (rest := []) (ok_X11_layFitted t_v0 h) (by decide +kernel : decode cX11_fitted 24 = .ok (.invokevirtual 511, 3)) rfl wd_1748 wd_1750 wp_158 wd_12 wd_1751 ⟨rfl, rfl⟩ hd_X11_layFitted ⟨Nat.le_of_ble_eq_true rfl, Nat.le_of_ble_eq_true rfl⟩ t_v0 kX11 (by decide) rfl rfl rfl (Nat.le_of_ble_eq_true rfl) ⟨Nat.zero_le _, Nat.zero_le _⟩ (fun S7 h => ?_)
    refine jB C [(.aload_n 0, 1, 0)] 28 [(0, .ref (b + v0)), (1, .int v1)] [.ref (b + v0)] (by decide +kernel) rfl rfl ?_
    refine jcV_I C 31 (rest := []) (ok_X11_findFitted t_v0 h) (by decide +kernel : decode cX11_fitted 28 = .ok (.invokevirtual 514, 3)) rfl wd_1752 wd_1754 wp_159 wd_12 wd_1755 ⟨rfl, rfl⟩ hd_X11_findFitted ⟨Nat.le_of_ble_eq_true rfl, Nat.le_of_ble_eq_true rfl⟩ t_v0 kX11 (by decide) rfl rfl rfl (Nat.le_of_ble_eq_true rfl) ⟨Nat.zero_le _, Nat.zero_le _⟩ (fun r9 S8 h => ?_)
    refine jB C [(.istore_n 2, 1, 0), (.iload_n 1, 1, 0)] 33 [(2, .int r9), (0, .ref (b + v0)), (1, .int v1)] [.int v1] (by decide +kernel) rfl rfl ?_
    refine jIf_ne C 36 40 (by decide +kernel : decode cX11_fitted 33 = .ok (.ifCond .ne 7, 3)) rfl rfl (fun c10 => ?_) (fun c10 => ?_)
    · have h := it2 h c10
      refine jB C [(.aload_n 0, 1, 0)] 41 [(2, .int r9), (0, .ref (b + v0)), (1, .int v1)] [.ref (b + v0)] (by decide +kernel) rfl rfl ?_
      obtain ⟨a11, e_a11, h⟩ := h
      refine jGetR C 44 (by decide +kernel : decode cX11_fitted 41 = .ok (.getfield 132, 3)) rfl t_v0 kX11 49 (by decide) rfl rfl (by decide) wd_1203 e_a11 rfl (fun t_a11 => ?_)
      refine jB C [(.iload_n 1, 1, 0), (.iconst 1, 1, 1), (.isub, 1, 0)] 47 [(2, .int r9), (0, .ref (b + v0)), (1, .int v1)] [.int (v1 - 1), .ref (b + a11)] (by decide +kernel) rfl rfl ?_
      obtain ⟨y12, h⟩ := h
      refine jIald C 48 (by decide +kernel : decode cX11_fitted 47 = .ok (.iaload, 1)) rfl t_a11 y12 ?_
      exact jRetI C (by decide +kernel : decode cX11_fitted 48 = .ok (.ireturn, 1)) (Nat.le_refl _) (Nat.le_refl _) ⟨rfl, h⟩
    · have h := it1 h c10
      refine jB C [(.iload_n 2, 1, 0)] 37 [(2, .int r9), (0, .ref (b + v0)), (1, .int v1)] [.int r9] (by decide +kernel) rfl rfl ?_
      refine jGoto C 48 (by decide +kernel : decode cX11_fitted 37 = .ok (.goto 11, 3)) rfl ?_
      exact jRetI C (by decide +kernel : decode cX11_fitted 48 = .ok (.ireturn, 1)) (Nat.le_refl _) (Nat.le_refl _) ⟨rfl, h⟩
  · have h := it1 h c6
    refine jB C [(.iconst (-1), 1, (-1))] 22 [(0, .ref (b + v0)), (1, .int v1)] [.int (-1)] (by decide +kernel) rfl rfl ?_
    exact jRetI C (by decide +kernel : decode cX11_fitted 22 = .ok (.ireturn, 1)) (Nat.le_refl _) (Nat.le_refl _) ⟨rfl, h⟩
theorem ok_X11_fitted {G : Gm} {v0 : Nat} {v1 : Int32} {S : St} {Q : Int32 → St → Prop} (t_v0 : ok G 10 v0) (h : f_X11_fitted G v0 v1 Q S) : MT yX11_fitted cX11_fitted 3 (some .int) rm_X11_fitted 0 0 (fun b => [.ref (b + v0), .int v1]) G S (QI (fun r G1 S1 => G1 = G ∧ Q r S1)) := MT.ofJ (by decide) (fun b => [(0, .ref (b + v0)), (1, .int v1)]) (fun b => rfl) (fun b => Nat.le_of_ble_eq_true rfl) (fun l b D cy p e s m below meth c C hE hn => j_X11_fitted C hE t_v0 h)
theorem hd_X11_fitted : yX11_fitted.cls ≠ "java/lang/invoke/MethodHandle" ∧ yX11_fitted.cls ≠ "java/lang/invoke/VarHandle" ∧ (parseMethodDescriptor yX11_fitted.desc).map (fun d => d.parameters.length) = some 1 := by decide +kernel
def f_X11_isLaw (G : Gm) (v0 : Nat) (v1 : Int32) (Q : Int32 → St → Prop) (S : St) : Prop :=
  (if v1 = (-1) then Q 1 S else (∃ a2, S.2.2 v0 4 = some a2 ∧ (vp_in 2 (G.2.1 a2) ∧ f_X11_in G v1.toInt64 0 (((S.1 a2 2.toNatClampNeg).toInt64) - 1) (fun r5 S4 => (if r5 = 0 then Q 0 S4 else Q 1 S4)) S)))
abbrev rm_X11_isLaw : Room := { frames := 1, cells := 0, slots := 0, locals := 25 }
set_option maxHeartbeats 4000000 in
set_option maxRecDepth 100000 in
theorem j_X11_isLaw {p : Program} {l : Launch} {e : Env} {s : State} {m : MethodId} {args : Array Value} {below : List Frame} {meth : Method} {c : Code} {b : Nat} {D : va_G} {cy : Nat → ClassId} {G : Gm} {v0 : Nat} {v1 : Int32} {S : St} {Q : Int32 → St → Prop} (C : CX p s m args meth c b D cy cX11_isLaw RX11 2 (some .boolean)) (hE : s.heap.size + 0 ≤ b + G.2.2) (t_v0 : ok G 10 v0) (h : f_X11_isLaw G v0 v1 Q S) : J p l e rm_X11_isLaw s m args below meth c b D cy 2 (zI b D cy below args s G Q) 0 0 G S 0 [(0, .ref (b + v0)), (1, .int v1)] [] := by
  unfold f_X11_isLaw at h
  refine jB C [(.iload_n 1, 1, 0), (.iconst (-1), 1, (-1))] 2 [(0, .ref (b + v0)), (1, .int v1)] [.int (-1), .int v1] (by decide +kernel) rfl rfl ?_
  refine jIcmp_eq C 5 23 (by decide +kernel : decode cX11_isLaw 2 = .ok (.if_icmp .eq 21, 3)) rfl rfl (fun c1 => ?_) (fun c1 => ?_)
  · have h := it1 h c1
    refine jB C [(.iconst 1, 1, 1)] 24 [(0, .ref (b + v0)), (1, .int v1)] [.int 1] (by decide +kernel) rfl rfl ?_
    refine jGoto C 28 (by decide +kernel : decode cX11_isLaw 24 = .ok (.goto 4, 3)) rfl ?_
    exact jRetZ C (by decide +kernel : decode cX11_isLaw 28 = .ok (.ireturn, 1)) (Nat.le_refl _) (Nat.le_refl _) (by decide) ⟨rfl, h⟩
  · have h := it2 h c1
    refine jB C [(.iload_n 1, 1, 0), (.i2l, 1, 0), (.lconst 0, 1, 0), (.aload_n 0, 1, 0)] 9 [(0, .ref (b + v0)), (1, .int v1)] [.ref (b + v0), .long 0, .long v1.toInt64] (by decide +kernel) rfl rfl ?_
    obtain ⟨a2, e_a2, h⟩ := h
    refine jGetR C 12 (by decide +kernel : decode cX11_isLaw 9 = .ok (.getfield 16, 3)) rfl t_v0 kX11 4 (by decide) rfl rfl (by decide) wd_1158 e_a2 rfl (fun t_a2 => ?_)
    refine jB C [(.iconst 2, 1, 2)] 13 [(0, .ref (b + v0)), (1, .int v1)] [.int 2, .ref (b + a2), .long 0, .long v1.toInt64] (by decide +kernel) rfl rfl ?_
    obtain ⟨y3, h⟩ := h
    refine jIald C 14 (by decide +kernel : decode cX11_isLaw 13 = .ok (.iaload, 1)) rfl t_a2 y3 ?_
    refine jB C [(.i2l, 1, 0), (.lconst 1, 1, 0), (.lsub, 1, 0)] 17 [(0, .ref (b + v0)), (1, .int v1)] [.long (((S.1 a2 2.toNatClampNeg).toInt64) - 1), .long 0, .long v1.toInt64] (by decide +kernel) rfl rfl ?_
    refine jcS_I C 20 (rest := []) (ok_X11_in h) (by decide +kernel : decode cX11_isLaw 17 = .ok (.invokestatic 185, 3)) rfl wd_1352 wd_1353 wd_12 wd_1354 ⟨rfl, rfl⟩ hd_X11_in ⟨Nat.le_of_ble_eq_true rfl, Nat.le_of_ble_eq_true rfl⟩ rfl rfl (Nat.le_of_ble_eq_true rfl) ⟨Nat.zero_le _, Nat.zero_le _⟩ (fun r5 S4 h => ?_)
    refine jIf_eq C 23 27 (by decide +kernel : decode cX11_isLaw 20 = .ok (.ifCond .eq 7, 3)) rfl rfl (fun c6 => ?_) (fun c6 => ?_)
    · have h := it1 h c6
      refine jB C [(.iconst 0, 1, 0)] 28 [(0, .ref (b + v0)), (1, .int v1)] [.int 0] (by decide +kernel) rfl rfl ?_
      exact jRetZ C (by decide +kernel : decode cX11_isLaw 28 = .ok (.ireturn, 1)) (Nat.le_refl _) (Nat.le_refl _) (by decide) ⟨rfl, h⟩
    · have h := it2 h c6
      refine jB C [(.iconst 1, 1, 1)] 24 [(0, .ref (b + v0)), (1, .int v1)] [.int 1] (by decide +kernel) rfl rfl ?_
      refine jGoto C 28 (by decide +kernel : decode cX11_isLaw 24 = .ok (.goto 4, 3)) rfl ?_
      exact jRetZ C (by decide +kernel : decode cX11_isLaw 28 = .ok (.ireturn, 1)) (Nat.le_refl _) (Nat.le_refl _) (by decide) ⟨rfl, h⟩
theorem ok_X11_isLaw {G : Gm} {v0 : Nat} {v1 : Int32} {S : St} {Q : Int32 → St → Prop} (t_v0 : ok G 10 v0) (h : f_X11_isLaw G v0 v1 Q S) : MT yX11_isLaw cX11_isLaw 2 (some .boolean) rm_X11_isLaw 0 0 (fun b => [.ref (b + v0), .int v1]) G S (QI (fun r G1 S1 => G1 = G ∧ Q r S1)) := MT.ofJ (by decide) (fun b => [(0, .ref (b + v0)), (1, .int v1)]) (fun b => rfl) (fun b => Nat.le_of_ble_eq_true rfl) (fun l b D cy p e s m below meth c C hE hn => j_X11_isLaw C hE t_v0 h)
theorem hd_X11_isLaw : yX11_isLaw.cls ≠ "java/lang/invoke/MethodHandle" ∧ yX11_isLaw.cls ≠ "java/lang/invoke/VarHandle" ∧ (parseMethodDescriptor yX11_isLaw.desc).map (fun d => d.parameters.length) = some 1 := by decide +kernel
def f_X11_force (G : Gm) (v0 : Nat) (v1 : Int32) (Q : Int32 → St → Prop) (S : St) : Prop :=
  (∀ S1, S1 = uI S v0 0 0 → f_X11_isLaw G v0 v1 (fun r3 S2 => (if r3 = 0 then f_X11_tell G v0 (-2) (fun r6 S5 => Q r6 S5) S2 else f_X11_change G v0 3 v1 (fun r8 S7 => Q r8 S7) S2)) S1)
abbrev rm_X11_force : Room := { frames := 2, cells := 0, slots := 0, locals := 46 }
set_option maxHeartbeats 4000000 in
set_option maxRecDepth 100000 in
theorem j_X11_force {p : Program} {l : Launch} {e : Env} {s : State} {m : MethodId} {args : Array Value} {below : List Frame} {meth : Method} {c : Code} {b : Nat} {D : va_G} {cy : Nat → ClassId} {G : Gm} {v0 : Nat} {v1 : Int32} {S : St} {Q : Int32 → St → Prop} (C : CX p s m args meth c b D cy cX11_force RX11 2 (some .int)) (hE : s.heap.size + 0 ≤ b + G.2.2) (t_v0 : ok G 10 v0) (h : f_X11_force G v0 v1 Q S) : J p l e rm_X11_force s m args below meth c b D cy 2 (zI b D cy below args s G Q) 0 0 G S 0 [(0, .ref (b + v0)), (1, .int v1)] [] := by
  unfold f_X11_force at h
  refine jB C [(.aload_n 0, 1, 0), (.iconst 0, 1, 0)] 2 [(0, .ref (b + v0)), (1, .int v1)] [.int 0, .ref (b + v0)] (by decide +kernel) rfl rfl ?_
  refine jPutI C 5 (by decide +kernel : decode cX11_force 2 = .ok (.putfield 165, 3)) rfl hE t_v0 kX11 0 (by decide) rfl rfl (by decide) rfl wd_1154 rfl rfl rfl ?_
  refine jTopS (fun S1 e_S1 => ?_)
  have h := h S1 e_S1
  refine jB C [(.aload_n 0, 1, 0), (.iload_n 1, 1, 0)] 7 [(0, .ref (b + v0)), (1, .int v1)] [.int v1, .ref (b + v0)] (by decide +kernel) rfl rfl ?_
  refine jcV_I C 10 (rest := []) (ok_X11_isLaw t_v0 h) (by decide +kernel : decode cX11_force 7 = .ok (.invokevirtual 416, 3)) rfl wd_1634 wd_1636 wp_142 wd_12 wd_1637 ⟨rfl, rfl⟩ hd_X11_isLaw ⟨Nat.le_of_ble_eq_true rfl, Nat.le_of_ble_eq_true rfl⟩ t_v0 kX11 (by decide) rfl rfl rfl (Nat.le_of_ble_eq_true rfl) ⟨Nat.zero_le _, Nat.zero_le _⟩ (fun r3 S2 h => ?_)
  refine jIf_eq C 13 22 (by decide +kernel : decode cX11_force 10 = .ok (.ifCond .eq 12, 3)) rfl rfl (fun c4 => ?_) (fun c4 => ?_)
  · have h := it1 h c4
    refine jB C [(.aload_n 0, 1, 0), (.bipush (-2), 2, (-2))] 25 [(0, .ref (b + v0)), (1, .int v1)] [.int (-2), .ref (b + v0)] (by decide +kernel) rfl rfl ?_
    refine jcV_I C 28 (rest := []) (ok_X11_tell t_v0 h) (by decide +kernel : decode cX11_force 25 = .ok (.invokevirtual 174, 3)) rfl wd_1340 wd_1342 wp_99 wd_12 wd_1343 ⟨rfl, rfl⟩ hd_X11_tell ⟨Nat.le_of_ble_eq_true rfl, Nat.le_of_ble_eq_true rfl⟩ t_v0 kX11 (by decide) rfl rfl rfl (Nat.le_of_ble_eq_true rfl) ⟨Nat.zero_le _, Nat.zero_le _⟩ (fun r6 S5 h => ?_)
    exact jRetI C (by decide +kernel : decode cX11_force 28 = .ok (.ireturn, 1)) (Nat.le_refl _) (Nat.le_refl _) ⟨rfl, h⟩
  · have h := it2 h c4
    refine jB C [(.aload_n 0, 1, 0), (.iconst 3, 1, 3), (.iload_n 1, 1, 0)] 16 [(0, .ref (b + v0)), (1, .int v1)] [.int v1, .int 3, .ref (b + v0)] (by decide +kernel) rfl rfl ?_
    refine jcV_I C 19 (rest := []) (ok_X11_change t_v0 h) (by decide +kernel : decode cX11_force 16 = .ok (.invokevirtual 242, 3)) rfl wd_1465 wd_1467 wp_117 wd_12 wd_1468 ⟨rfl, rfl⟩ hd_X11_change ⟨Nat.le_of_ble_eq_true rfl, Nat.le_of_ble_eq_true rfl⟩ t_v0 kX11 (by decide) rfl rfl rfl (Nat.le_of_ble_eq_true rfl) ⟨Nat.zero_le _, Nat.zero_le _⟩ (fun r8 S7 h => ?_)
    refine jGoto C 28 (by decide +kernel : decode cX11_force 19 = .ok (.goto 9, 3)) rfl ?_
    exact jRetI C (by decide +kernel : decode cX11_force 28 = .ok (.ireturn, 1)) (Nat.le_refl _) (Nat.le_refl _) ⟨rfl, h⟩
theorem ok_X11_force {G : Gm} {v0 : Nat} {v1 : Int32} {S : St} {Q : Int32 → St → Prop} (t_v0 : ok G 10 v0) (h : f_X11_force G v0 v1 Q S) : MT yX11_force cX11_force 2 (some .int) rm_X11_force 0 0 (fun b => [.ref (b + v0), .int v1]) G S (QI (fun r G1 S1 => G1 = G ∧ Q r S1)) := MT.ofJ (by decide) (fun b => [(0, .ref (b + v0)), (1, .int v1)]) (fun b => rfl) (fun b => Nat.le_of_ble_eq_true rfl) (fun l b D cy p e s m below meth c C hE hn => j_X11_force C hE t_v0 h)
theorem hd_X11_force : yX11_force.cls ≠ "java/lang/invoke/MethodHandle" ∧ yX11_force.cls ≠ "java/lang/invoke/VarHandle" ∧ (parseMethodDescriptor yX11_force.desc).map (fun d => d.parameters.length) = some 1 := by decide +kernel
def f_X11_forget (G : Gm) (v0 : Nat) (Q : Int32 → St → Prop) (S : St) : Prop :=
  (∀ S1, S1 = uI S v0 0 0 → (∃ a2, S1.2.2 v0 4 = some a2 ∧ (vp_in 1 (G.2.1 a2) ∧ (∀ x4 : Int32, x4 = S1.1 a2 1.toNatClampNeg → (∃ a5, S1.2.2 v0 4 = some a5 ∧ (vp_in 1 (G.2.1 a5) ∧ ∀ S7, S7 = uI S1 a5 1.toNatClampNeg 0 → Q x4 S7))))))
abbrev rm_X11_forget : Room := { frames := 0, cells := 0, slots := 0, locals := 0 }
set_option maxHeartbeats 4000000 in
set_option maxRecDepth 100000 in
theorem j_X11_forget {p : Program} {l : Launch} {e : Env} {s : State} {m : MethodId} {args : Array Value} {below : List Frame} {meth : Method} {c : Code} {b : Nat} {D : va_G} {cy : Nat → ClassId} {G : Gm} {v0 : Nat} {S : St} {Q : Int32 → St → Prop} (C : CX p s m args meth c b D cy cX11_forget RX11 2 (some .int)) (hE : s.heap.size + 0 ≤ b + G.2.2) (t_v0 : ok G 10 v0) (h : f_X11_forget G v0 Q S) : J p l e rm_X11_forget s m args below meth c b D cy 2 (zI b D cy below args s G Q) 0 0 G S 0 [(0, .ref (b + v0))] [] := by
  unfold f_X11_forget at h
  refine jB C [(.aload_n 0, 1, 0), (.iconst 0, 1, 0)] 2 [(0, .ref (b + v0))] [.int 0, .ref (b + v0)] (by decide +kernel) rfl rfl ?_
  refine jPutI C 5 (by decide +kernel : decode cX11_forget 2 = .ok (.putfield 165, 3)) rfl hE t_v0 kX11 0 (by decide) rfl rfl (by decide) rfl wd_1154 rfl rfl rfl ?_
  refine jTopS (fun S1 e_S1 => ?_)
  have h := h S1 e_S1
  refine jB C [(.aload_n 0, 1, 0)] 6 [(0, .ref (b + v0))] [.ref (b + v0)] (by decide +kernel) rfl rfl ?_
  obtain ⟨a2, e_a2, h⟩ := h
  refine jGetR C 9 (by decide +kernel : decode cX11_forget 6 = .ok (.getfield 16, 3)) rfl t_v0 kX11 4 (by decide) rfl rfl (by decide) wd_1158 e_a2 rfl (fun t_a2 => ?_)
  refine jB C [(.iconst 1, 1, 1)] 10 [(0, .ref (b + v0))] [.int 1, .ref (b + a2)] (by decide +kernel) rfl rfl ?_
  obtain ⟨y3, h⟩ := h
  refine jIald C 11 (by decide +kernel : decode cX11_forget 10 = .ok (.iaload, 1)) rfl t_a2 y3 ?_
  refine jTopI (fun x4 e_x4 => ?_)
  have h := h x4 e_x4
  refine jB C [(.istore_n 1, 1, 0), (.aload_n 0, 1, 0)] 13 [(1, .int x4), (0, .ref (b + v0))] [.ref (b + v0)] (by decide +kernel) rfl rfl ?_
  obtain ⟨a5, e_a5, h⟩ := h
  refine jGetR C 16 (by decide +kernel : decode cX11_forget 13 = .ok (.getfield 16, 3)) rfl t_v0 kX11 4 (by decide) rfl rfl (by decide) wd_1158 e_a5 rfl (fun t_a5 => ?_)
  refine jB C [(.iconst 1, 1, 1), (.iconst 0, 1, 0)] 18 [(1, .int x4), (0, .ref (b + v0))] [.int 0, .int 1, .ref (b + a5)] (by decide +kernel) rfl rfl ?_
  obtain ⟨y6, h⟩ := h
  refine jIast C 19 (by decide +kernel : decode cX11_forget 18 = .ok (.iastore, 1)) rfl hE t_a5 y6 ?_
  refine jTopS (fun S7 e_S7 => ?_)
  have h := h S7 e_S7
  refine jB C [(.iload_n 1, 1, 0)] 20 [(1, .int x4), (0, .ref (b + v0))] [.int x4] (by decide +kernel) rfl rfl ?_
  exact jRetI C (by decide +kernel : decode cX11_forget 20 = .ok (.ireturn, 1)) (Nat.le_refl _) (Nat.le_refl _) ⟨rfl, h⟩
theorem ok_X11_forget {G : Gm} {v0 : Nat} {S : St} {Q : Int32 → St → Prop} (t_v0 : ok G 10 v0) (h : f_X11_forget G v0 Q S) : MT yX11_forget cX11_forget 2 (some .int) rm_X11_forget 0 0 (fun b => [.ref (b + v0)]) G S (QI (fun r G1 S1 => G1 = G ∧ Q r S1)) := MT.ofJ (by decide) (fun b => [(0, .ref (b + v0))]) (fun b => rfl) (fun b => Nat.le_of_ble_eq_true rfl) (fun l b D cy p e s m below meth c C hE hn => j_X11_forget C hE t_v0 h)
theorem hd_X11_forget : yX11_forget.cls ≠ "java/lang/invoke/MethodHandle" ∧ yX11_forget.cls ≠ "java/lang/invoke/VarHandle" ∧ (parseMethodDescriptor yX11_forget.desc).map (fun d => d.parameters.length) = some 0 := by decide +kernel
def f_X11_putBack_2_n (G : Gm) (v0 : Nat) (v1 : Int32) (Q : St → Prop) : Nat → Int32 → St → Prop
  | 0, _, _ => False
  | n + 1, v2, S => (if 58 ≤ v2 then Q S else (∃ a2, S.2.2 v0 4 = some a2 ∧ (∃ a3, S.2.2 v0 7 = some a3 ∧ (vp_in ((58 * v1) + v2) (G.2.1 a3) ∧ (vp_in (4 + v2) (G.2.1 a2) ∧ ∀ S6, S6 = uI S a2 (4 + v2).toNatClampNeg (S.1 a3 ((58 * v1) + v2).toNatClampNeg) → (f_X11_putBack_2_n G v0 v1 Q n) (v2 + 1) S6)))))
def f_X11_putBack_2 (G : Gm) (v0 : Nat) (v1 : Int32) (Q : St → Prop) (v2 : Int32) (S : St) : Prop := ∃ n, f_X11_putBack_2_n G v0 v1 Q n v2 S
def f_X11_putBack (G : Gm) (v0 : Nat) (v1 : Int32) (Q : St → Prop) (S : St) : Prop :=
  f_X11_putBack_2 G v0 v1 Q 0 S
abbrev rm_X11_putBack : Room := { frames := 0, cells := 0, slots := 0, locals := 0 }
set_option maxHeartbeats 4000000 in
set_option maxRecDepth 100000 in
theorem j_X11_putBack_2_n {p : Program} {l : Launch} {e : Env} {s : State} {m : MethodId} {args : Array Value} {below : List Frame} {meth : Method} {c : Code} {b : Nat} {D : va_G} {cy : Nat → ClassId} {G : Gm} {v0 : Nat} {v1 : Int32} {Q : St → Prop} (C : CX p s m args meth c b D cy cX11_putBack RX11 3 none) (hE : s.heap.size + 0 ≤ b + G.2.2) (t_v0 : ok G 10 v0) : ∀ n (v2 : Int32) S, f_X11_putBack_2_n G v0 v1 Q n v2 S → J p l e rm_X11_putBack s m args below meth c b D cy 3 (zV b D cy below args s G Q) 0 0 G S 2 [(0, .ref (b + v0)), (1, .int v1), (2, .int v2)] [] := by
  intro n
  induction n with
  | zero => intro v2 S h; exact h.elim
  | succ n ih =>
    intro v2 S h
    unfold f_X11_putBack_2_n at h
    refine jB C [(.iload_n 2, 1, 0), (.bipush 58, 2, 58)] 5 [(0, .ref (b + v0)), (1, .int v1), (2, .int v2)] [.int 58, .int v2] (by decide +kernel) rfl rfl ?_
    refine jIcmp_ge C 8 33 (by decide +kernel : decode cX11_putBack 5 = .ok (.if_icmp .ge 28, 3)) rfl rfl (fun c1 => ?_) (fun c1 => ?_)
    · have h := it1 h c1
      exact jRetV C (by decide +kernel : decode cX11_putBack 33 = .ok (.return_, 1)) (Nat.le_refl _) (Nat.le_refl _) ⟨rfl, h⟩
    · have h := it2 h c1
      refine jB C [(.aload_n 0, 1, 0)] 9 [(0, .ref (b + v0)), (1, .int v1), (2, .int v2)] [.ref (b + v0)] (by decide +kernel) rfl rfl ?_
      obtain ⟨a2, e_a2, h⟩ := h
      refine jGetR C 12 (by decide +kernel : decode cX11_putBack 9 = .ok (.getfield 16, 3)) rfl t_v0 kX11 4 (by decide) rfl rfl (by decide) wd_1158 e_a2 rfl (fun t_a2 => ?_)
      refine jB C [(.iconst 4, 1, 4), (.iload_n 2, 1, 0), (.iadd, 1, 0), (.aload_n 0, 1, 0)] 16 [(0, .ref (b + v0)), (1, .int v1), (2, .int v2)] [.ref (b + v0), .int (4 + v2), .ref (b + a2)] (by decide +kernel) rfl rfl ?_
      obtain ⟨a3, e_a3, h⟩ := h
      refine jGetR C 19 (by decide +kernel : decode cX11_putBack 16 = .ok (.getfield 26, 3)) rfl t_v0 kX11 7 (by decide) rfl rfl (by decide) wd_1161 e_a3 rfl (fun t_a3 => ?_)
      refine jB C [(.bipush 58, 2, 58), (.iload_n 1, 1, 0), (.imul, 1, 0), (.iload_n 2, 1, 0), (.iadd, 1, 0)] 25 [(0, .ref (b + v0)), (1, .int v1), (2, .int v2)] [.int ((58 * v1) + v2), .ref (b + a3), .int (4 + v2), .ref (b + a2)] (by decide +kernel) rfl rfl ?_
      obtain ⟨y4, h⟩ := h
      refine jIald C 26 (by decide +kernel : decode cX11_putBack 25 = .ok (.iaload, 1)) rfl t_a3 y4 ?_
      obtain ⟨y5, h⟩ := h
      refine jIast C 27 (by decide +kernel : decode cX11_putBack 26 = .ok (.iastore, 1)) rfl hE t_a2 y5 ?_
      refine jTopS (fun S6 e_S6 => ?_)
      have h := h S6 e_S6
      refine jB C [(.iinc 2 1, 3, 1)] 30 [(2, .int (v2 + 1)), (0, .ref (b + v0)), (1, .int v1)] [] (by decide +kernel) rfl rfl ?_
      refine jGoto C 2 (by decide +kernel : decode cX11_putBack 30 = .ok (.goto (-28), 3)) rfl ?_
      refine jSub [1, 2, 0] rfl ?_
      exact ih (v2 + 1) S6 h
theorem j_X11_putBack_2 {p : Program} {l : Launch} {e : Env} {s : State} {m : MethodId} {args : Array Value} {below : List Frame} {meth : Method} {c : Code} {b : Nat} {D : va_G} {cy : Nat → ClassId} {G : Gm} {v0 : Nat} {v1 : Int32} {v2 : Int32} {S : St} {Q : St → Prop} (C : CX p s m args meth c b D cy cX11_putBack RX11 3 none) (hE : s.heap.size + 0 ≤ b + G.2.2) (t_v0 : ok G 10 v0) (h : f_X11_putBack_2 G v0 v1 Q v2 S) : J p l e rm_X11_putBack s m args below meth c b D cy 3 (zV b D cy below args s G Q) 0 0 G S 2 [(0, .ref (b + v0)), (1, .int v1), (2, .int v2)] [] := by
  obtain ⟨n, h⟩ := h
  exact j_X11_putBack_2_n C hE t_v0 n v2 S h
set_option maxHeartbeats 4000000 in
set_option maxRecDepth 100000 in
theorem j_X11_putBack {p : Program} {l : Launch} {e : Env} {s : State} {m : MethodId} {args : Array Value} {below : List Frame} {meth : Method} {c : Code} {b : Nat} {D : va_G} {cy : Nat → ClassId} {G : Gm} {v0 : Nat} {v1 : Int32} {S : St} {Q : St → Prop} (C : CX p s m args meth c b D cy cX11_putBack RX11 3 none) (hE : s.heap.size + 0 ≤ b + G.2.2) (t_v0 : ok G 10 v0) (h : f_X11_putBack G v0 v1 Q S) : J p l e rm_X11_putBack s m args below meth c b D cy 3 (zV b D cy below args s G Q) 0 0 G S 0 [(0, .ref (b + v0)), (1, .int v1)] [] := by
  unfold f_X11_putBack at h
  refine jB C [(.iconst 0, 1, 0), (.istore_n 2, 1, 0)] 2 [(2, .int 0), (0, .ref (b + v0)), (1, .int v1)] [] (by decide +kernel) rfl rfl ?_
  refine jSub [1, 2, 0] rfl ?_
  exact j_X11_putBack_2 C hE t_v0 h
theorem ok_X11_putBack {G : Gm} {v0 : Nat} {v1 : Int32} {S : St} {Q : St → Prop} (t_v0 : ok G 10 v0) (h : f_X11_putBack G v0 v1 Q S) : MT yX11_putBack cX11_putBack 3 none rm_X11_putBack 0 0 (fun b => [.ref (b + v0), .int v1]) G S (QV (fun G1 S1 => G1 = G ∧ Q S1)) := MT.ofJ (by decide) (fun b => [(0, .ref (b + v0)), (1, .int v1)]) (fun b => rfl) (fun b => Nat.le_of_ble_eq_true rfl) (fun l b D cy p e s m below meth c C hE hn => j_X11_putBack C hE t_v0 h)
theorem hd_X11_putBack : yX11_putBack.cls ≠ "java/lang/invoke/MethodHandle" ∧ yX11_putBack.cls ≠ "java/lang/invoke/VarHandle" ∧ (parseMethodDescriptor yX11_putBack.desc).map (fun d => d.parameters.length) = some 1 := by decide +kernel
def f_X11_giveBack_35_n (G : Gm) (v0 : Nat) (v1 : Int32) (Q : St → Prop) : Nat → Int32 → St → Prop
  | 0, _, _ => False
  | n + 1, v2, S => (if 16 ≤ v2 then (∀ S2, S2 = uI S v0 9 v1 → Q S2) else (∃ a3, S.2.2 v0 8 = some a3 ∧ (∃ a4, S.2.2 v0 11 = some a4 ∧ (vp_in v2 (G.2.1 a4) ∧ (vp_in v2 (G.2.1 a3) ∧ ∀ S7, S7 = uI S a3 v2.toNatClampNeg (S.1 a4 v2.toNatClampNeg) → (f_X11_giveBack_35_n G v0 v1 Q n) (v2 + 1) S7)))))
def f_X11_giveBack_35 (G : Gm) (v0 : Nat) (v1 : Int32) (Q : St → Prop) (v2 : Int32) (S : St) : Prop := ∃ n, f_X11_giveBack_35_n G v0 v1 Q n v2 S
def f_X11_giveBack_8_n (G : Gm) (v0 : Nat) (v1 : Int32) (Q : St → Prop) : Nat → Int32 → St → Prop
  | 0, _, _ => False
  | n + 1, v2, S => (if 928 ≤ v2 then f_X11_giveBack_35 G v0 v1 Q 0 S else (∃ a2, S.2.2 v0 7 = some a2 ∧ (∃ a3, S.2.2 v0 10 = some a3 ∧ (vp_in v2 (G.2.1 a3) ∧ (vp_in v2 (G.2.1 a2) ∧ ∀ S6, S6 = uI S a2 v2.toNatClampNeg (S.1 a3 v2.toNatClampNeg) → (f_X11_giveBack_8_n G v0 v1 Q n) (v2 + 1) S6)))))
def f_X11_giveBack_8 (G : Gm) (v0 : Nat) (v1 : Int32) (Q : St → Prop) (v2 : Int32) (S : St) : Prop := ∃ n, f_X11_giveBack_8_n G v0 v1 Q n v2 S
def f_X11_giveBack (G : Gm) (v0 : Nat) (v1 : Int32) (Q : St → Prop) (S : St) : Prop :=
  f_X11_putBack G v0 17 (fun S1 => f_X11_giveBack_8 G v0 v1 Q 0 S1) S
abbrev rm_X11_giveBack : Room := { frames := 1, cells := 0, slots := 0, locals := 22 }
set_option maxHeartbeats 4000000 in
set_option maxRecDepth 100000 in
theorem j_X11_giveBack_35_n {p : Program} {l : Launch} {e : Env} {s : State} {m : MethodId} {args : Array Value} {below : List Frame} {meth : Method} {c : Code} {b : Nat} {D : va_G} {cy : Nat → ClassId} {G : Gm} {v0 : Nat} {v1 : Int32} {Q : St → Prop} (C : CX p s m args meth c b D cy cX11_giveBack RX11 3 none) (hE : s.heap.size + 0 ≤ b + G.2.2) (t_v0 : ok G 10 v0) : ∀ n (v2 : Int32) S, f_X11_giveBack_35_n G v0 v1 Q n v2 S → J p l e rm_X11_giveBack s m args below meth c b D cy 3 (zV b D cy below args s G Q) 0 0 G S 35 [(0, .ref (b + v0)), (1, .int v1), (2, .int v2)] [] := by
  intro n
  induction n with
  | zero => intro v2 S h; exact h.elim
  | succ n ih =>
    intro v2 S h
    unfold f_X11_giveBack_35_n at h
    refine jB C [(.iload_n 2, 1, 0), (.bipush 16, 2, 16)] 38 [(0, .ref (b + v0)), (1, .int v1), (2, .int v2)] [.int 16, .int v2] (by decide +kernel) rfl rfl ?_
    refine jIcmp_ge C 41 59 (by decide +kernel : decode cX11_giveBack 38 = .ok (.if_icmp .ge 21, 3)) rfl rfl (fun c1 => ?_) (fun c1 => ?_)
    · have h := it1 h c1
      refine jB C [(.aload_n 0, 1, 0), (.iload_n 1, 1, 0)] 61 [(0, .ref (b + v0)), (1, .int v1), (2, .int v2)] [.int v1, .ref (b + v0)] (by decide +kernel) rfl rfl ?_
      refine jPutI C 64 (by decide +kernel : decode cX11_giveBack 61 = .ok (.putfield 171, 3)) rfl hE t_v0 kX11 9 (by decide) rfl rfl (by decide) rfl wd_1163 rfl rfl rfl ?_
      refine jTopS (fun S2 e_S2 => ?_)
      have h := h S2 e_S2
      exact jRetV C (by decide +kernel : decode cX11_giveBack 64 = .ok (.return_, 1)) (Nat.le_refl _) (Nat.le_refl _) ⟨rfl, h⟩
    · have h := it2 h c1
      refine jB C [(.aload_n 0, 1, 0)] 42 [(0, .ref (b + v0)), (1, .int v1), (2, .int v2)] [.ref (b + v0)] (by decide +kernel) rfl rfl ?_
      obtain ⟨a3, e_a3, h⟩ := h
      refine jGetR C 45 (by decide +kernel : decode cX11_giveBack 42 = .ok (.getfield 29, 3)) rfl t_v0 kX11 8 (by decide) rfl rfl (by decide) wd_1162 e_a3 rfl (fun t_a3 => ?_)
      refine jB C [(.iload_n 2, 1, 0), (.aload_n 0, 1, 0)] 47 [(0, .ref (b + v0)), (1, .int v1), (2, .int v2)] [.ref (b + v0), .int v2, .ref (b + a3)] (by decide +kernel) rfl rfl ?_
      obtain ⟨a4, e_a4, h⟩ := h
      refine jGetR C 50 (by decide +kernel : decode cX11_giveBack 47 = .ok (.getfield 35, 3)) rfl t_v0 kX11 11 (by decide) rfl rfl (by decide) wd_1165 e_a4 rfl (fun t_a4 => ?_)
      refine jB C [(.iload_n 2, 1, 0)] 51 [(0, .ref (b + v0)), (1, .int v1), (2, .int v2)] [.int v2, .ref (b + a4), .int v2, .ref (b + a3)] (by decide +kernel) rfl rfl ?_
      obtain ⟨y5, h⟩ := h
      refine jIald C 52 (by decide +kernel : decode cX11_giveBack 51 = .ok (.iaload, 1)) rfl t_a4 y5 ?_
      obtain ⟨y6, h⟩ := h
      refine jIast C 53 (by decide +kernel : decode cX11_giveBack 52 = .ok (.iastore, 1)) rfl hE t_a3 y6 ?_
      refine jTopS (fun S7 e_S7 => ?_)
      have h := h S7 e_S7
      refine jB C [(.iinc 2 1, 3, 1)] 56 [(2, .int (v2 + 1)), (0, .ref (b + v0)), (1, .int v1)] [] (by decide +kernel) rfl rfl ?_
      refine jGoto C 35 (by decide +kernel : decode cX11_giveBack 56 = .ok (.goto (-21), 3)) rfl ?_
      refine jSub [1, 2, 0] rfl ?_
      exact ih (v2 + 1) S7 h
theorem j_X11_giveBack_35 {p : Program} {l : Launch} {e : Env} {s : State} {m : MethodId} {args : Array Value} {below : List Frame} {meth : Method} {c : Code} {b : Nat} {D : va_G} {cy : Nat → ClassId} {G : Gm} {v0 : Nat} {v1 : Int32} {v2 : Int32} {S : St} {Q : St → Prop} (C : CX p s m args meth c b D cy cX11_giveBack RX11 3 none) (hE : s.heap.size + 0 ≤ b + G.2.2) (t_v0 : ok G 10 v0) (h : f_X11_giveBack_35 G v0 v1 Q v2 S) : J p l e rm_X11_giveBack s m args below meth c b D cy 3 (zV b D cy below args s G Q) 0 0 G S 35 [(0, .ref (b + v0)), (1, .int v1), (2, .int v2)] [] := by
  obtain ⟨n, h⟩ := h
  exact j_X11_giveBack_35_n C hE t_v0 n v2 S h
set_option maxHeartbeats 4000000 in
set_option maxRecDepth 100000 in
theorem j_X11_giveBack_8_n {p : Program} {l : Launch} {e : Env} {s : State} {m : MethodId} {args : Array Value} {below : List Frame} {meth : Method} {c : Code} {b : Nat} {D : va_G} {cy : Nat → ClassId} {G : Gm} {v0 : Nat} {v1 : Int32} {Q : St → Prop} (C : CX p s m args meth c b D cy cX11_giveBack RX11 3 none) (hE : s.heap.size + 0 ≤ b + G.2.2) (t_v0 : ok G 10 v0) : ∀ n (v2 : Int32) S, f_X11_giveBack_8_n G v0 v1 Q n v2 S → J p l e rm_X11_giveBack s m args below meth c b D cy 3 (zV b D cy below args s G Q) 0 0 G S 8 [(0, .ref (b + v0)), (1, .int v1), (2, .int v2)] [] := by
  intro n
  induction n with
  | zero => intro v2 S h; exact h.elim
  | succ n ih =>
    intro v2 S h
    unfold f_X11_giveBack_8_n at h
    refine jB C [(.iload_n 2, 1, 0), (.sipush 928, 3, 928)] 12 [(0, .ref (b + v0)), (1, .int v1), (2, .int v2)] [.int 928, .int v2] (by decide +kernel) rfl rfl ?_
    refine jIcmp_ge C 15 33 (by decide +kernel : decode cX11_giveBack 12 = .ok (.if_icmp .ge 21, 3)) rfl rfl (fun c1 => ?_) (fun c1 => ?_)
    · have h := it1 h c1
      refine jB C [(.iconst 0, 1, 0), (.istore_n 2, 1, 0)] 35 [(2, .int 0), (0, .ref (b + v0)), (1, .int v1)] [] (by decide +kernel) rfl rfl ?_
      refine jSub [1, 2, 0] rfl ?_
      exact j_X11_giveBack_35 C hE t_v0 h
    · have h := it2 h c1
      refine jB C [(.aload_n 0, 1, 0)] 16 [(0, .ref (b + v0)), (1, .int v1), (2, .int v2)] [.ref (b + v0)] (by decide +kernel) rfl rfl ?_
      obtain ⟨a2, e_a2, h⟩ := h
      refine jGetR C 19 (by decide +kernel : decode cX11_giveBack 16 = .ok (.getfield 26, 3)) rfl t_v0 kX11 7 (by decide) rfl rfl (by decide) wd_1161 e_a2 rfl (fun t_a2 => ?_)
      refine jB C [(.iload_n 2, 1, 0), (.aload_n 0, 1, 0)] 21 [(0, .ref (b + v0)), (1, .int v1), (2, .int v2)] [.ref (b + v0), .int v2, .ref (b + a2)] (by decide +kernel) rfl rfl ?_
      obtain ⟨a3, e_a3, h⟩ := h
      refine jGetR C 24 (by decide +kernel : decode cX11_giveBack 21 = .ok (.getfield 32, 3)) rfl t_v0 kX11 10 (by decide) rfl rfl (by decide) wd_1164 e_a3 rfl (fun t_a3 => ?_)
      refine jB C [(.iload_n 2, 1, 0)] 25 [(0, .ref (b + v0)), (1, .int v1), (2, .int v2)] [.int v2, .ref (b + a3), .int v2, .ref (b + a2)] (by decide +kernel) rfl rfl ?_
      obtain ⟨y4, h⟩ := h
      refine jIald C 26 (by decide +kernel : decode cX11_giveBack 25 = .ok (.iaload, 1)) rfl t_a3 y4 ?_
      obtain ⟨y5, h⟩ := h
      refine jIast C 27 (by decide +kernel : decode cX11_giveBack 26 = .ok (.iastore, 1)) rfl hE t_a2 y5 ?_
      refine jTopS (fun S6 e_S6 => ?_)
      have h := h S6 e_S6
      refine jB C [(.iinc 2 1, 3, 1)] 30 [(2, .int (v2 + 1)), (0, .ref (b + v0)), (1, .int v1)] [] (by decide +kernel) rfl rfl ?_
      refine jGoto C 8 (by decide +kernel : decode cX11_giveBack 30 = .ok (.goto (-22), 3)) rfl ?_
      refine jSub [1, 2, 0] rfl ?_
      exact ih (v2 + 1) S6 h
theorem j_X11_giveBack_8 {p : Program} {l : Launch} {e : Env} {s : State} {m : MethodId} {args : Array Value} {below : List Frame} {meth : Method} {c : Code} {b : Nat} {D : va_G} {cy : Nat → ClassId} {G : Gm} {v0 : Nat} {v1 : Int32} {v2 : Int32} {S : St} {Q : St → Prop} (C : CX p s m args meth c b D cy cX11_giveBack RX11 3 none) (hE : s.heap.size + 0 ≤ b + G.2.2) (t_v0 : ok G 10 v0) (h : f_X11_giveBack_8 G v0 v1 Q v2 S) : J p l e rm_X11_giveBack s m args below meth c b D cy 3 (zV b D cy below args s G Q) 0 0 G S 8 [(0, .ref (b + v0)), (1, .int v1), (2, .int v2)] [] := by
  obtain ⟨n, h⟩ := h
  exact j_X11_giveBack_8_n C hE t_v0 n v2 S h
set_option maxHeartbeats 4000000 in
set_option maxRecDepth 100000 in
theorem j_X11_giveBack {p : Program} {l : Launch} {e : Env} {s : State} {m : MethodId} {args : Array Value} {below : List Frame} {meth : Method} {c : Code} {b : Nat} {D : va_G} {cy : Nat → ClassId} {G : Gm} {v0 : Nat} {v1 : Int32} {S : St} {Q : St → Prop} (C : CX p s m args meth c b D cy cX11_giveBack RX11 3 none) (hE : s.heap.size + 0 ≤ b + G.2.2) (t_v0 : ok G 10 v0) (h : f_X11_giveBack G v0 v1 Q S) : J p l e rm_X11_giveBack s m args below meth c b D cy 3 (zV b D cy below args s G Q) 0 0 G S 0 [(0, .ref (b + v0)), (1, .int v1)] [] := by
  unfold f_X11_giveBack at h
  refine jB C [(.aload_n 0, 1, 0), (.bipush 17, 2, 17)] 3 [(0, .ref (b + v0)), (1, .int v1)] [.int 17, .ref (b + v0)] (by decide +kernel) rfl rfl ?_
  refine jcV_V C 6 (rest := []) (ok_X11_putBack t_v0 h) (by decide +kernel : decode cX11_giveBack 3 = .ok (.invokevirtual 182, 3)) rfl wd_1344 wd_1346 wp_100 wd_12 wd_1347 ⟨rfl, rfl⟩ hd_X11_putBack ⟨Nat.le_of_ble_eq_true rfl, Nat.le_of_ble_eq_true rfl⟩ t_v0 kX11 (by decide) rfl rfl rfl (Nat.le_of_ble_eq_true rfl) ⟨Nat.zero_le _, Nat.zero_le _⟩ (fun S1 h => ?_)
  refine jB C [(.iconst 0, 1, 0), (.istore_n 2, 1, 0)] 8 [(2, .int 0), (0, .ref (b + v0)), (1, .int v1)] [] (by decide +kernel) rfl rfl ?_
  refine jSub [1, 2, 0] rfl ?_
  exact j_X11_giveBack_8 C hE t_v0 h
theorem ok_X11_giveBack {G : Gm} {v0 : Nat} {v1 : Int32} {S : St} {Q : St → Prop} (t_v0 : ok G 10 v0) (h : f_X11_giveBack G v0 v1 Q S) : MT yX11_giveBack cX11_giveBack 3 none rm_X11_giveBack 0 0 (fun b => [.ref (b + v0), .int v1]) G S (QV (fun G1 S1 => G1 = G ∧ Q S1)) := MT.ofJ (by decide) (fun b => [(0, .ref (b + v0)), (1, .int v1)]) (fun b => rfl) (fun b => Nat.le_of_ble_eq_true rfl) (fun l b D cy p e s m below meth c C hE hn => j_X11_giveBack C hE t_v0 h)
theorem hd_X11_giveBack : yX11_giveBack.cls ≠ "java/lang/invoke/MethodHandle" ∧ yX11_giveBack.cls ≠ "java/lang/invoke/VarHandle" ∧ (parseMethodDescriptor yX11_giveBack.desc).map (fun d => d.parameters.length) = some 1 := by decide +kernel
def f_X11_isGlass_48 (G : Gm) (k20 : Int32 → Int32 → St → Prop) (v2 : Int32) (u0 : Int32) (Q : Int32 → St → Prop) (S : St) : Prop :=
  (∀ x1 : Int32, x1 = v2 / 10 → k20 u0 x1 S)
def f_X11_isGlass_47 (G : Gm) (k20 : Int32 → Int32 → St → Prop) (v2 : Int32) (Q : Int32 → St → Prop) (S : St) : Prop :=
  f_X11_isGlass_48 G k20 v2 0 Q S
def f_X11_isGlass_20_n (G : Gm) (Q : Int32 → St → Prop) : Nat → Int32 → Int32 → St → Prop
  | 0, _, _, _ => False
  | n + 1, v1, v2, S => (if v2 ≤ 0 then ((v1 = 0 ∨ v1 = 1) ∧ Q v1 S) else (if v1 = 0 then f_X11_isGlass_47 G (f_X11_isGlass_20_n G Q n) v2 Q S else f_X11_in G ((v2 - v2 / 10 * 10).toInt64) 1 8 (fun r4 S3 => (if r4 = 0 then f_X11_isGlass_47 G (f_X11_isGlass_20_n G Q n) v2 Q S3 else f_X11_isGlass_48 G (f_X11_isGlass_20_n G Q n) v2 1 Q S3)) S))
def f_X11_isGlass_20 (G : Gm) (Q : Int32 → St → Prop) (v1 : Int32) (v2 : Int32) (S : St) : Prop := ∃ n, f_X11_isGlass_20_n G Q n v1 v2 S
def f_X11_isGlass (G : Gm) (v0 : Int32) (Q : Int32 → St → Prop) (S : St) : Prop :=
  f_X11_in G v0.toInt64 0 8888 (fun r2 S1 => (if r2 = 0 then f_X11_isGlass_20 G Q r2 0 S1 else f_X11_isGlass_20 G Q r2 v0 S1)) S
abbrev rm_X11_isGlass : Room := { frames := 1, cells := 0, slots := 0, locals := 25 }
set_option maxHeartbeats 4000000 in
set_option maxRecDepth 100000 in
theorem j_X11_isGlass_48 {p : Program} {l : Launch} {e : Env} {s : State} {m : MethodId} {args : Array Value} {below : List Frame} {meth : Method} {c : Code} {b : Nat} {D : va_G} {cy : Nat → ClassId} {G : Gm} {k20 : Int32 → Int32 → St → Prop} {v2 : Int32} {u0 : Int32} {S : St} {Q : Int32 → St → Prop} (C : CX p s m args meth c b D cy cX11_isGlass RX11 3 (some .boolean)) (hE : s.heap.size + 0 ≤ b + G.2.2) (hk20 : ∀ v1' v2' S, k20 v1' v2' S → J p l e rm_X11_isGlass s m args below meth c b D cy 3 (zI b D cy below args s G Q) 0 0 G S 20 [(1, .int (v1')), (2, .int (v2'))] []) (h : f_X11_isGlass_48 G k20 v2 u0 Q S) : J p l e rm_X11_isGlass s m args below meth c b D cy 3 (zI b D cy below args s G Q) 0 0 G S 48 [(2, .int v2)] [.int u0] := by
  unfold f_X11_isGlass_48 at h
  refine jB C [(.istore_n 1, 1, 0), (.iload_n 2, 1, 0), (.bipush 10, 2, 10)] 52 [(1, .int u0), (2, .int v2)] [.int 10, .int v2] (by decide +kernel) rfl rfl ?_
  refine jIdiv C 53 (by decide +kernel : decode cX11_isGlass 52 = .ok (.idiv, 1)) rfl (by decide) ?_
  refine jTopI (fun x1 e_x1 => ?_)
  have h := h x1 e_x1
  refine jB C [(.istore_n 2, 1, 0)] 54 [(2, .int x1), (1, .int u0)] [] (by decide +kernel) rfl rfl ?_
  refine jGoto C 20 (by decide +kernel : decode cX11_isGlass 54 = .ok (.goto (-34), 3)) rfl ?_
  refine jSub [1, 0] rfl ?_
  exact hk20 u0 x1 S h
set_option maxHeartbeats 4000000 in
set_option maxRecDepth 100000 in
theorem j_X11_isGlass_47 {p : Program} {l : Launch} {e : Env} {s : State} {m : MethodId} {args : Array Value} {below : List Frame} {meth : Method} {c : Code} {b : Nat} {D : va_G} {cy : Nat → ClassId} {G : Gm} {k20 : Int32 → Int32 → St → Prop} {v2 : Int32} {S : St} {Q : Int32 → St → Prop} (C : CX p s m args meth c b D cy cX11_isGlass RX11 3 (some .boolean)) (hE : s.heap.size + 0 ≤ b + G.2.2) (hk20 : ∀ v1' v2' S, k20 v1' v2' S → J p l e rm_X11_isGlass s m args below meth c b D cy 3 (zI b D cy below args s G Q) 0 0 G S 20 [(1, .int (v1')), (2, .int (v2'))] []) (h : f_X11_isGlass_47 G k20 v2 Q S) : J p l e rm_X11_isGlass s m args below meth c b D cy 3 (zI b D cy below args s G Q) 0 0 G S 47 [(2, .int v2)] [] := by
  unfold f_X11_isGlass_47 at h
  refine jB C [(.iconst 0, 1, 0)] 48 [(2, .int v2)] [.int 0] (by decide +kernel) rfl rfl ?_
  refine jSub [0] rfl ?_
  exact j_X11_isGlass_48 C hE hk20 h
set_option maxHeartbeats 4000000 in
set_option maxRecDepth 100000 in
theorem j_X11_isGlass_20_n {p : Program} {l : Launch} {e : Env} {s : State} {m : MethodId} {args : Array Value} {below : List Frame} {meth : Method} {c : Code} {b : Nat} {D : va_G} {cy : Nat → ClassId} {G : Gm} {Q : Int32 → St → Prop} (C : CX p s m args meth c b D cy cX11_isGlass RX11 3 (some .boolean)) (hE : s.heap.size + 0 ≤ b + G.2.2) : ∀ n (v1 : Int32) (v2 : Int32) S, f_X11_isGlass_20_n G Q n v1 v2 S → J p l e rm_X11_isGlass s m args below meth c b D cy 3 (zI b D cy below args s G Q) 0 0 G S 20 [(1, .int v1), (2, .int v2)] [] := by
  intro n
  induction n with
  | zero => intro v1 v2 S h; exact h.elim
  | succ n ih =>
    intro v1 v2 S h
    unfold f_X11_isGlass_20_n at h
    refine jB C [(.iload_n 2, 1, 0)] 21 [(1, .int v1), (2, .int v2)] [.int v2] (by decide +kernel) rfl rfl ?_
    refine jIf_le C 24 57 (by decide +kernel : decode cX11_isGlass 21 = .ok (.ifCond .le 36, 3)) rfl rfl (fun c1 => ?_) (fun c1 => ?_)
    · have h := it1 h c1
      refine jB C [(.iload_n 1, 1, 0)] 58 [(1, .int v1), (2, .int v2)] [.int v1] (by decide +kernel) rfl rfl ?_
      exact jRetZ C (by decide +kernel : decode cX11_isGlass 58 = .ok (.ireturn, 1)) (Nat.le_refl _) (Nat.le_refl _) h.1 ⟨rfl, h.2⟩
    · have h := it2 h c1
      refine jB C [(.iload_n 1, 1, 0)] 25 [(1, .int v1), (2, .int v2)] [.int v1] (by decide +kernel) rfl rfl ?_
      refine jIf_eq C 28 47 (by decide +kernel : decode cX11_isGlass 25 = .ok (.ifCond .eq 22, 3)) rfl rfl (fun c2 => ?_) (fun c2 => ?_)
      · have h := it1 h c2
        refine jSub [1] rfl ?_
        exact j_X11_isGlass_47 C hE ih h
      · have h := it2 h c2
        refine jB C [(.iload_n 2, 1, 0), (.bipush 10, 2, 10)] 31 [(1, .int v1), (2, .int v2)] [.int 10, .int v2] (by decide +kernel) rfl rfl ?_
        refine jIrem C 32 (by decide +kernel : decode cX11_isGlass 31 = .ok (.irem, 1)) rfl (by decide) ?_
        refine jB C [(.i2l, 1, 0), (.lconst 1, 1, 0)] 34 [(1, .int v1), (2, .int v2)] [.long 1, .long ((v2 - v2 / 10 * 10).toInt64)] (by decide +kernel) rfl rfl ?_
        refine jLdc2 C 37 (by decide +kernel : decode cX11_isGlass 34 = .ok (.ldc2_w 203, 3)) rfl wd_1371 ?_
        refine jcS_I C 40 (rest := []) (ok_X11_in h) (by decide +kernel : decode cX11_isGlass 37 = .ok (.invokestatic 185, 3)) rfl wd_1352 wd_1353 wd_12 wd_1354 ⟨rfl, rfl⟩ hd_X11_in ⟨Nat.le_of_ble_eq_true rfl, Nat.le_of_ble_eq_true rfl⟩ rfl rfl (Nat.le_of_ble_eq_true rfl) ⟨Nat.zero_le _, Nat.zero_le _⟩ (fun r4 S3 h => ?_)
        refine jIf_eq C 43 47 (by decide +kernel : decode cX11_isGlass 40 = .ok (.ifCond .eq 7, 3)) rfl rfl (fun c5 => ?_) (fun c5 => ?_)
        · have h := it1 h c5
          refine jSub [1] rfl ?_
          exact j_X11_isGlass_47 C hE ih h
        · have h := it2 h c5
          refine jB C [(.iconst 1, 1, 1)] 44 [(1, .int v1), (2, .int v2)] [.int 1] (by decide +kernel) rfl rfl ?_
          refine jGoto C 48 (by decide +kernel : decode cX11_isGlass 44 = .ok (.goto 4, 3)) rfl ?_
          refine jSub [1] rfl ?_
          exact j_X11_isGlass_48 C hE ih h
theorem j_X11_isGlass_20 {p : Program} {l : Launch} {e : Env} {s : State} {m : MethodId} {args : Array Value} {below : List Frame} {meth : Method} {c : Code} {b : Nat} {D : va_G} {cy : Nat → ClassId} {G : Gm} {v1 : Int32} {v2 : Int32} {S : St} {Q : Int32 → St → Prop} (C : CX p s m args meth c b D cy cX11_isGlass RX11 3 (some .boolean)) (hE : s.heap.size + 0 ≤ b + G.2.2) (h : f_X11_isGlass_20 G Q v1 v2 S) : J p l e rm_X11_isGlass s m args below meth c b D cy 3 (zI b D cy below args s G Q) 0 0 G S 20 [(1, .int v1), (2, .int v2)] [] := by
  obtain ⟨n, h⟩ := h
  exact j_X11_isGlass_20_n C hE n v1 v2 S h
set_option maxHeartbeats 4000000 in
set_option maxRecDepth 100000 in
theorem j_X11_isGlass {p : Program} {l : Launch} {e : Env} {s : State} {m : MethodId} {args : Array Value} {below : List Frame} {meth : Method} {c : Code} {b : Nat} {D : va_G} {cy : Nat → ClassId} {G : Gm} {v0 : Int32} {S : St} {Q : Int32 → St → Prop} (C : CX p s m args meth c b D cy cX11_isGlass RX11 3 (some .boolean)) (hE : s.heap.size + 0 ≤ b + G.2.2) (h : f_X11_isGlass G v0 Q S) : J p l e rm_X11_isGlass s m args below meth c b D cy 3 (zI b D cy below args s G Q) 0 0 G S 0 [(0, .int v0)] [] := by
  unfold f_X11_isGlass at h
  refine jB C [(.iload_n 0, 1, 0), (.i2l, 1, 0), (.lconst 0, 1, 0)] 3 [(0, .int v0)] [.long 0, .long v0.toInt64] (by decide +kernel) rfl rfl ?_
  refine jLdc2 C 6 (by decide +kernel : decode cX11_isGlass 3 = .ok (.ldc2_w 233, 3)) rfl wd_1456 ?_
  refine jcS_I C 9 (rest := []) (ok_X11_in h) (by decide +kernel : decode cX11_isGlass 6 = .ok (.invokestatic 185, 3)) rfl wd_1352 wd_1353 wd_12 wd_1354 ⟨rfl, rfl⟩ hd_X11_in ⟨Nat.le_of_ble_eq_true rfl, Nat.le_of_ble_eq_true rfl⟩ rfl rfl (Nat.le_of_ble_eq_true rfl) ⟨Nat.zero_le _, Nat.zero_le _⟩ (fun r2 S1 h => ?_)
  refine jB C [(.istore_n 1, 1, 0), (.iload_n 1, 1, 0)] 11 [(1, .int r2), (0, .int v0)] [.int r2] (by decide +kernel) rfl rfl ?_
  refine jIf_eq C 14 18 (by decide +kernel : decode cX11_isGlass 11 = .ok (.ifCond .eq 7, 3)) rfl rfl (fun c3 => ?_) (fun c3 => ?_)
  · have h := it1 h c3
    refine jB C [(.iconst 0, 1, 0), (.istore_n 2, 1, 0)] 20 [(2, .int 0), (1, .int r2), (0, .int v0)] [] (by decide +kernel) rfl rfl ?_
    refine jSub [1, 0] rfl ?_
    exact j_X11_isGlass_20 C hE h
  · have h := it2 h c3
    refine jB C [(.iload_n 0, 1, 0)] 15 [(1, .int r2), (0, .int v0)] [.int v0] (by decide +kernel) rfl rfl ?_
    refine jGoto C 19 (by decide +kernel : decode cX11_isGlass 15 = .ok (.goto 4, 3)) rfl ?_
    refine jB C [(.istore_n 2, 1, 0)] 20 [(2, .int v0), (1, .int r2), (0, .int v0)] [] (by decide +kernel) rfl rfl ?_
    refine jSub [1, 0] rfl ?_
    exact j_X11_isGlass_20 C hE h
theorem ok_X11_isGlass {G : Gm} {v0 : Int32} {S : St} {Q : Int32 → St → Prop} (h : f_X11_isGlass G v0 Q S) : MT yX11_isGlass cX11_isGlass 3 (some .boolean) rm_X11_isGlass 0 0 (fun b => [.int v0]) G S (QI (fun r G1 S1 => G1 = G ∧ Q r S1)) := MT.ofJ (by decide) (fun b => [(0, .int v0)]) (fun b => rfl) (fun b => Nat.le_of_ble_eq_true rfl) (fun l b D cy p e s m below meth c C hE hn => j_X11_isGlass C hE h)
theorem hd_X11_isGlass : yX11_isGlass.cls ≠ "java/lang/invoke/MethodHandle" ∧ yX11_isGlass.cls ≠ "java/lang/invoke/VarHandle" ∧ (parseMethodDescriptor yX11_isGlass.desc).map (fun d => d.parameters.length) = some 1 := by decide +kernel
def f_X11_glass (G : Gm) (v0 : Nat) (v1 : Int32) (v2 : Int32) (Q : Int32 → St → Prop) (S : St) : Prop :=
  (∀ S1, S1 = uI S v0 0 0 → f_X11_isGlass G v2 (fun r3 S2 => (if r3 = 0 then f_X11_tell G v0 (-1) (fun r16 S15 => Q r16 S15) S2 else f_X11_isPerson G v0 v1 (fun r6 S5 => (if r6 = 0 then f_X11_tell G v0 (-2) (fun r14 S13 => Q r14 S13) S5 else f_X11_putGlass G v0 v1 v2 (fun S8 => f_X11_lensesOf G v0 v1 (fun r10 S9 => f_X11_settled G v0 r10 (fun r12 S11 => Q r12 S11) S9) S8) S5)) S2)) S1)
abbrev rm_X11_glass : Room := { frames := 2, cells := 0, slots := 0, locals := 47 }
set_option maxHeartbeats 4000000 in
set_option maxRecDepth 100000 in
theorem j_X11_glass {p : Program} {l : Launch} {e : Env} {s : State} {m : MethodId} {args : Array Value} {below : List Frame} {meth : Method} {c : Code} {b : Nat} {D : va_G} {cy : Nat → ClassId} {G : Gm} {v0 : Nat} {v1 : Int32} {v2 : Int32} {S : St} {Q : Int32 → St → Prop} (C : CX p s m args meth c b D cy cX11_glass RX11 3 (some .int)) (hE : s.heap.size + 0 ≤ b + G.2.2) (t_v0 : ok G 10 v0) (h : f_X11_glass G v0 v1 v2 Q S) : J p l e rm_X11_glass s m args below meth c b D cy 3 (zI b D cy below args s G Q) 0 0 G S 0 [(0, .ref (b + v0)), (1, .int v1), (2, .int v2)] [] := by
  unfold f_X11_glass at h
  refine jB C [(.aload_n 0, 1, 0), (.iconst 0, 1, 0)] 2 [(0, .ref (b + v0)), (1, .int v1), (2, .int v2)] [.int 0, .ref (b + v0)] (by decide +kernel) rfl rfl ?_
  refine jPutI C 5 (by decide +kernel : decode cX11_glass 2 = .ok (.putfield 165, 3)) rfl hE t_v0 kX11 0 (by decide) rfl rfl (by decide) rfl wd_1154 rfl rfl rfl ?_
  refine jTopS (fun S1 e_S1 => ?_)
  have h := h S1 e_S1
  refine jB C [(.iload_n 2, 1, 0)] 6 [(0, .ref (b + v0)), (1, .int v1), (2, .int v2)] [.int v2] (by decide +kernel) rfl rfl ?_
  refine jcS_I C 9 (rest := []) (ok_X11_isGlass h) (by decide +kernel : decode cX11_glass 6 = .ok (.invokestatic 235, 3)) rfl wd_1453 wd_1454 wd_12 wd_1455 ⟨rfl, rfl⟩ hd_X11_isGlass ⟨Nat.le_of_ble_eq_true rfl, Nat.le_of_ble_eq_true rfl⟩ rfl rfl (Nat.le_of_ble_eq_true rfl) ⟨Nat.zero_le _, Nat.zero_le _⟩ (fun r3 S2 h => ?_)
  refine jIf_ne C 12 18 (by decide +kernel : decode cX11_glass 9 = .ok (.ifCond .ne 9, 3)) rfl rfl (fun c4 => ?_) (fun c4 => ?_)
  · have h := it2 h c4
    refine jB C [(.aload_n 0, 1, 0), (.iload_n 1, 1, 0)] 20 [(0, .ref (b + v0)), (1, .int v1), (2, .int v2)] [.int v1, .ref (b + v0)] (by decide +kernel) rfl rfl ?_
    refine jcV_I C 23 (rest := []) (ok_X11_isPerson t_v0 h) (by decide +kernel : decode cX11_glass 20 = .ok (.invokevirtual 209, 3)) rfl wd_1376 wd_1378 wp_103 wd_12 wd_1379 ⟨rfl, rfl⟩ hd_X11_isPerson ⟨Nat.le_of_ble_eq_true rfl, Nat.le_of_ble_eq_true rfl⟩ t_v0 kX11 (by decide) rfl rfl rfl (Nat.le_of_ble_eq_true rfl) ⟨Nat.zero_le _, Nat.zero_le _⟩ (fun r6 S5 h => ?_)
    refine jIf_ne C 26 33 (by decide +kernel : decode cX11_glass 23 = .ok (.ifCond .ne 10, 3)) rfl rfl (fun c7 => ?_) (fun c7 => ?_)
    · have h := it2 h c7
      refine jB C [(.aload_n 0, 1, 0), (.iload_n 1, 1, 0), (.iload_n 2, 1, 0)] 36 [(0, .ref (b + v0)), (1, .int v1), (2, .int v2)] [.int v2, .int v1, .ref (b + v0)] (by decide +kernel) rfl rfl ?_
      refine jcV_V C 39 (rest := []) (ok_X11_putGlass t_v0 h) (by decide +kernel : decode cX11_glass 36 = .ok (.invokevirtual 238, 3)) rfl wd_1457 wd_1459 wp_116 wd_12 wd_1460 ⟨rfl, rfl⟩ hd_X11_putGlass ⟨Nat.le_of_ble_eq_true rfl, Nat.le_of_ble_eq_true rfl⟩ t_v0 kX11 (by decide) rfl rfl rfl (Nat.le_of_ble_eq_true rfl) ⟨Nat.zero_le _, Nat.zero_le _⟩ (fun S8 h => ?_)
      refine jB C [(.aload_n 0, 1, 0), (.aload_n 0, 1, 0), (.iload_n 1, 1, 0)] 42 [(0, .ref (b + v0)), (1, .int v1), (2, .int v2)] [.int v1, .ref (b + v0), .ref (b + v0)] (by decide +kernel) rfl rfl ?_
      refine jcV_I C 45 (rest := [.ref (b + v0)]) (ok_X11_lensesOf t_v0 h) (by decide +kernel : decode cX11_glass 42 = .ok (.invokevirtual 196, 3)) rfl wd_1382 wd_1384 wp_104 wd_12 wd_1385 ⟨rfl, rfl⟩ hd_X11_lensesOf ⟨Nat.le_of_ble_eq_true rfl, Nat.le_of_ble_eq_true rfl⟩ t_v0 kX11 (by decide) rfl rfl rfl (Nat.le_of_ble_eq_true rfl) ⟨Nat.zero_le _, Nat.zero_le _⟩ (fun r10 S9 h => ?_)
      refine jcV_I C 48 (rest := []) (ok_X11_settled t_v0 h) (by decide +kernel : decode cX11_glass 45 = .ok (.invokevirtual 189, 3)) rfl wd_1359 wd_1361 wp_101 wd_12 wd_1362 ⟨rfl, rfl⟩ hd_X11_settled ⟨Nat.le_of_ble_eq_true rfl, Nat.le_of_ble_eq_true rfl⟩ t_v0 kX11 (by decide) rfl rfl rfl (Nat.le_of_ble_eq_true rfl) ⟨Nat.zero_le _, Nat.zero_le _⟩ (fun r12 S11 h => ?_)
      exact jRetI C (by decide +kernel : decode cX11_glass 48 = .ok (.ireturn, 1)) (Nat.le_refl _) (Nat.le_refl _) ⟨rfl, h⟩
    · have h := it1 h c7
      refine jB C [(.aload_n 0, 1, 0), (.bipush (-2), 2, (-2))] 29 [(0, .ref (b + v0)), (1, .int v1), (2, .int v2)] [.int (-2), .ref (b + v0)] (by decide +kernel) rfl rfl ?_
      refine jcV_I C 32 (rest := []) (ok_X11_tell t_v0 h) (by decide +kernel : decode cX11_glass 29 = .ok (.invokevirtual 174, 3)) rfl wd_1340 wd_1342 wp_99 wd_12 wd_1343 ⟨rfl, rfl⟩ hd_X11_tell ⟨Nat.le_of_ble_eq_true rfl, Nat.le_of_ble_eq_true rfl⟩ t_v0 kX11 (by decide) rfl rfl rfl (Nat.le_of_ble_eq_true rfl) ⟨Nat.zero_le _, Nat.zero_le _⟩ (fun r14 S13 h => ?_)
      exact jRetI C (by decide +kernel : decode cX11_glass 32 = .ok (.ireturn, 1)) (Nat.le_refl _) (Nat.le_refl _) ⟨rfl, h⟩
  · have h := it1 h c4
    refine jB C [(.aload_n 0, 1, 0), (.iconst (-1), 1, (-1))] 14 [(0, .ref (b + v0)), (1, .int v1), (2, .int v2)] [.int (-1), .ref (b + v0)] (by decide +kernel) rfl rfl ?_
    refine jcV_I C 17 (rest := []) (ok_X11_tell t_v0 h) (by decide +kernel : decode cX11_glass 14 = .ok (.invokevirtual 174, 3)) rfl wd_1340 wd_1342 wp_99 wd_12 wd_1343 ⟨rfl, rfl⟩ hd_X11_tell ⟨Nat.le_of_ble_eq_true rfl, Nat.le_of_ble_eq_true rfl⟩ t_v0 kX11 (by decide) rfl rfl rfl (Nat.le_of_ble_eq_true rfl) ⟨Nat.zero_le _, Nat.zero_le _⟩ (fun r16 S15 h => ?_)
    exact jRetI C (by decide +kernel : decode cX11_glass 17 = .ok (.ireturn, 1)) (Nat.le_refl _) (Nat.le_refl _) ⟨rfl, h⟩
theorem ok_X11_glass {G : Gm} {v0 : Nat} {v1 : Int32} {v2 : Int32} {S : St} {Q : Int32 → St → Prop} (t_v0 : ok G 10 v0) (h : f_X11_glass G v0 v1 v2 Q S) : MT yX11_glass cX11_glass 3 (some .int) rm_X11_glass 0 0 (fun b => [.ref (b + v0), .int v1, .int v2]) G S (QI (fun r G1 S1 => G1 = G ∧ Q r S1)) := MT.ofJ (by decide) (fun b => [(0, .ref (b + v0)), (1, .int v1), (2, .int v2)]) (fun b => rfl) (fun b => Nat.le_of_ble_eq_true rfl) (fun l b D cy p e s m below meth c C hE hn => j_X11_glass C hE t_v0 h)
theorem hd_X11_glass : yX11_glass.cls ≠ "java/lang/invoke/MethodHandle" ∧ yX11_glass.cls ≠ "java/lang/invoke/VarHandle" ∧ (parseMethodDescriptor yX11_glass.desc).map (fun d => d.parameters.length) = some 2 := by decide +kernel
def f_X11_grind (G : Gm) (v0 : Nat) (v1 : Int32) (Q : Int32 → St → Prop) (S : St) : Prop :=
  (∀ S1, S1 = uI S v0 0 0 → f_X11_grindNow G v0 v1 (fun r3 S2 => f_X11_tell G v0 r3 (fun r5 S4 => Q r5 S4) S2) S1)
abbrev rm_X11_grind : Room := { frames := 10, cells := 0, slots := 0, locals := 233 }
set_option maxHeartbeats 4000000 in
set_option maxRecDepth 100000 in
theorem j_X11_grind {p : Program} {l : Launch} {e : Env} {s : State} {m : MethodId} {args : Array Value} {below : List Frame} {meth : Method} {c : Code} {b : Nat} {D : va_G} {cy : Nat → ClassId} {G : Gm} {v0 : Nat} {v1 : Int32} {S : St} {Q : Int32 → St → Prop} (C : CX p s m args meth c b D cy cX11_grind RX11 2 (some .int)) (hE : s.heap.size + 0 ≤ b + G.2.2) (t_v0 : ok G 10 v0) (h : f_X11_grind G v0 v1 Q S) : J p l e rm_X11_grind s m args below meth c b D cy 2 (zI b D cy below args s G Q) 0 0 G S 0 [(0, .ref (b + v0)), (1, .int v1)] [] := by
  unfold f_X11_grind at h
  refine jB C [(.aload_n 0, 1, 0), (.iconst 0, 1, 0)] 2 [(0, .ref (b + v0)), (1, .int v1)] [.int 0, .ref (b + v0)] (by decide +kernel) rfl rfl ?_
  refine jPutI C 5 (by decide +kernel : decode cX11_grind 2 = .ok (.putfield 165, 3)) rfl hE t_v0 kX11 0 (by decide) rfl rfl (by decide) rfl wd_1154 rfl rfl rfl ?_
  refine jTopS (fun S1 e_S1 => ?_)
  have h := h S1 e_S1
  refine jB C [(.aload_n 0, 1, 0), (.aload_n 0, 1, 0), (.iload_n 1, 1, 0)] 8 [(0, .ref (b + v0)), (1, .int v1)] [.int v1, .ref (b + v0), .ref (b + v0)] (by decide +kernel) rfl rfl ?_
  refine jcV_I C 11 (rest := [.ref (b + v0)]) (ok_X11_grindNow t_v0 h) (by decide +kernel : decode cX11_grind 8 = .ok (.invokevirtual 477, 3)) rfl wd_1659 wd_1661 wp_146 wd_12 wd_1662 ⟨rfl, rfl⟩ hd_X11_grindNow ⟨Nat.le_of_ble_eq_true rfl, Nat.le_of_ble_eq_true rfl⟩ t_v0 kX11 (by decide) rfl rfl rfl (Nat.le_of_ble_eq_true rfl) ⟨Nat.zero_le _, Nat.zero_le _⟩ (fun r3 S2 h => ?_)
  refine jcV_I C 14 (rest := []) (ok_X11_tell t_v0 h) (by decide +kernel : decode cX11_grind 11 = .ok (.invokevirtual 174, 3)) rfl wd_1340 wd_1342 wp_99 wd_12 wd_1343 ⟨rfl, rfl⟩ hd_X11_tell ⟨Nat.le_of_ble_eq_true rfl, Nat.le_of_ble_eq_true rfl⟩ t_v0 kX11 (by decide) rfl rfl rfl (Nat.le_of_ble_eq_true rfl) ⟨Nat.zero_le _, Nat.zero_le _⟩ (fun r5 S4 h => ?_)
  exact jRetI C (by decide +kernel : decode cX11_grind 14 = .ok (.ireturn, 1)) (Nat.le_refl _) (Nat.le_refl _) ⟨rfl, h⟩
theorem ok_X11_grind {G : Gm} {v0 : Nat} {v1 : Int32} {S : St} {Q : Int32 → St → Prop} (t_v0 : ok G 10 v0) (h : f_X11_grind G v0 v1 Q S) : MT yX11_grind cX11_grind 2 (some .int) rm_X11_grind 0 0 (fun b => [.ref (b + v0), .int v1]) G S (QI (fun r G1 S1 => G1 = G ∧ Q r S1)) := MT.ofJ (by decide) (fun b => [(0, .ref (b + v0)), (1, .int v1)]) (fun b => rfl) (fun b => Nat.le_of_ble_eq_true rfl) (fun l b D cy p e s m below meth c C hE hn => j_X11_grind C hE t_v0 h)
theorem hd_X11_grind : yX11_grind.cls ≠ "java/lang/invoke/MethodHandle" ∧ yX11_grind.cls ≠ "java/lang/invoke/VarHandle" ∧ (parseMethodDescriptor yX11_grind.desc).map (fun d => d.parameters.length) = some 1 := by decide +kernel
def f_X11_ground (G : Gm) (v0 : Nat) (v1 : Int32) (v2 : Int32) (Q : Int32 → St → Prop) (S : St) : Prop :=
  (∀ S1, S1 = uI S v0 0 0 → f_X11_isLaw G v0 v1 (fun r3 S2 => (if r3 = 0 then Q (-1) S2 else f_X11_isPerson G v0 v2 (fun r6 S5 => (if r6 = 0 then Q (-1) S5 else (∃ a8, S5.2.2 v0 4 = some a8 ∧ (vp_in 3 (G.2.1 a8) ∧ (∀ x10 : Int32, x10 = S5.1 a8 3.toNatClampNeg → (∃ a11, S5.2.2 v0 4 = some a11 ∧ (vp_in 3 (G.2.1 a11) ∧ ∀ S13, S13 = uI S5 a11 3.toNatClampNeg v1 → f_X11_layGround G v0 v2 (fun r15 S14 => (∃ a16, S14.2.2 v0 4 = some a16 ∧ (vp_in 3 (G.2.1 a16) ∧ ∀ S18, S18 = uI S14 a16 3.toNatClampNeg x10 → Q r15 S18))) S13))))))) S2)) S1)
abbrev rm_X11_ground : Room := { frames := 8, cells := 0, slots := 0, locals := 188 }
set_option maxHeartbeats 4000000 in
set_option maxRecDepth 100000 in
theorem j_X11_ground {p : Program} {l : Launch} {e : Env} {s : State} {m : MethodId} {args : Array Value} {below : List Frame} {meth : Method} {c : Code} {b : Nat} {D : va_G} {cy : Nat → ClassId} {G : Gm} {v0 : Nat} {v1 : Int32} {v2 : Int32} {S : St} {Q : Int32 → St → Prop} (C : CX p s m args meth c b D cy cX11_ground RX11 5 (some .int)) (hE : s.heap.size + 0 ≤ b + G.2.2) (t_v0 : ok G 10 v0) (h : f_X11_ground G v0 v1 v2 Q S) : J p l e rm_X11_ground s m args below meth c b D cy 5 (zI b D cy below args s G Q) 0 0 G S 0 [(0, .ref (b + v0)), (1, .int v1), (2, .int v2)] [] := by
  unfold f_X11_ground at h
  refine jB C [(.aload_n 0, 1, 0), (.iconst 0, 1, 0)] 2 [(0, .ref (b + v0)), (1, .int v1), (2, .int v2)] [.int 0, .ref (b + v0)] (by decide +kernel) rfl rfl ?_
  refine jPutI C 5 (by decide +kernel : decode cX11_ground 2 = .ok (.putfield 165, 3)) rfl hE t_v0 kX11 0 (by decide) rfl rfl (by decide) rfl wd_1154 rfl rfl rfl ?_
  refine jTopS (fun S1 e_S1 => ?_)
  have h := h S1 e_S1
  refine jB C [(.aload_n 0, 1, 0), (.iload_n 1, 1, 0)] 7 [(0, .ref (b + v0)), (1, .int v1), (2, .int v2)] [.int v1, .ref (b + v0)] (by decide +kernel) rfl rfl ?_
  refine jcV_I C 10 (rest := []) (ok_X11_isLaw t_v0 h) (by decide +kernel : decode cX11_ground 7 = .ok (.invokevirtual 416, 3)) rfl wd_1634 wd_1636 wp_142 wd_12 wd_1637 ⟨rfl, rfl⟩ hd_X11_isLaw ⟨Nat.le_of_ble_eq_true rfl, Nat.le_of_ble_eq_true rfl⟩ t_v0 kX11 (by decide) rfl rfl rfl (Nat.le_of_ble_eq_true rfl) ⟨Nat.zero_le _, Nat.zero_le _⟩ (fun r3 S2 h => ?_)
  refine jIf_eq C 13 21 (by decide +kernel : decode cX11_ground 10 = .ok (.ifCond .eq 11, 3)) rfl rfl (fun c4 => ?_) (fun c4 => ?_)
  · have h := it1 h c4
    refine jB C [(.iconst (-1), 1, (-1))] 22 [(0, .ref (b + v0)), (1, .int v1), (2, .int v2)] [.int (-1)] (by decide +kernel) rfl rfl ?_
    exact jRetI C (by decide +kernel : decode cX11_ground 22 = .ok (.ireturn, 1)) (Nat.le_refl _) (Nat.le_refl _) ⟨rfl, h⟩
  · have h := it2 h c4
    refine jB C [(.aload_n 0, 1, 0), (.iload_n 2, 1, 0)] 15 [(0, .ref (b + v0)), (1, .int v1), (2, .int v2)] [.int v2, .ref (b + v0)] (by decide +kernel) rfl rfl ?_
    refine jcV_I C 18 (rest := []) (ok_X11_isPerson t_v0 h) (by decide +kernel : decode cX11_ground 15 = .ok (.invokevirtual 209, 3)) rfl wd_1376 wd_1378 wp_103 wd_12 wd_1379 ⟨rfl, rfl⟩ hd_X11_isPerson ⟨Nat.le_of_ble_eq_true rfl, Nat.le_of_ble_eq_true rfl⟩ t_v0 kX11 (by decide) rfl rfl rfl (Nat.le_of_ble_eq_true rfl) ⟨Nat.zero_le _, Nat.zero_le _⟩ (fun r6 S5 h => ?_)
    refine jIf_ne C 21 23 (by decide +kernel : decode cX11_ground 18 = .ok (.ifCond .ne 5, 3)) rfl rfl (fun c7 => ?_) (fun c7 => ?_)
    · have h := it2 h c7
      refine jB C [(.aload_n 0, 1, 0)] 24 [(0, .ref (b + v0)), (1, .int v1), (2, .int v2)] [.ref (b + v0)] (by decide +kernel) rfl rfl ?_
      obtain ⟨a8, e_a8, h⟩ := h
      refine jGetR C 27 (by decide +kernel : decode cX11_ground 24 = .ok (.getfield 16, 3)) rfl t_v0 kX11 4 (by decide) rfl rfl (by decide) wd_1158 e_a8 rfl (fun t_a8 => ?_)
      refine jB C [(.iconst 3, 1, 3)] 28 [(0, .ref (b + v0)), (1, .int v1), (2, .int v2)] [.int 3, .ref (b + a8)] (by decide +kernel) rfl rfl ?_
      obtain ⟨y9, h⟩ := h
      refine jIald C 29 (by decide +kernel : decode cX11_ground 28 = .ok (.iaload, 1)) rfl t_a8 y9 ?_
      refine jTopI (fun x10 e_x10 => ?_)
      have h := h x10 e_x10
      refine jB C [(.istore_n 3, 1, 0), (.aload_n 0, 1, 0)] 31 [(3, .int x10), (0, .ref (b + v0)), (1, .int v1), (2, .int v2)] [.ref (b + v0)] (by decide +kernel) rfl rfl ?_
      obtain ⟨a11, e_a11, h⟩ := h
      refine jGetR C 34 (by decide +kernel : decode cX11_ground 31 = .ok (.getfield 16, 3)) rfl t_v0 kX11 4 (by decide) rfl rfl (by decide) wd_1158 e_a11 rfl (fun t_a11 => ?_)
      refine jB C [(.iconst 3, 1, 3), (.iload_n 1, 1, 0)] 36 [(3, .int x10), (0, .ref (b + v0)), (1, .int v1), (2, .int v2)] [.int v1, .int 3, .ref (b + a11)] (by decide +kernel) rfl rfl ?_
      obtain ⟨y12, h⟩ := h
      refine jIast C 37 (by decide +kernel : decode cX11_ground 36 = .ok (.iastore, 1)) rfl hE t_a11 y12 ?_
      refine jTopS (fun S13 e_S13 => ?_)
      have h := h S13 e_S13
      refine jB C [(.aload_n 0, 1, 0), (.iload_n 2, 1, 0)] 39 [(3, .int x10), (0, .ref (b + v0)), (1, .int v1), (2, .int v2)] [.int v2, .ref (b + v0)] (by decide +kernel) rfl rfl ?_
      refine jcV_I C 42 (rest := []) (ok_X11_layGround t_v0 h) (by decide +kernel : decode cX11_ground 39 = .ok (.invokevirtual 471, 3)) rfl wd_1667 wd_1669 wp_148 wd_12 wd_1670 ⟨rfl, rfl⟩ hd_X11_layGround ⟨Nat.le_of_ble_eq_true rfl, Nat.le_of_ble_eq_true rfl⟩ t_v0 kX11 (by decide) rfl rfl rfl (Nat.le_of_ble_eq_true rfl) ⟨Nat.zero_le _, Nat.zero_le _⟩ (fun r15 S14 h => ?_)
      refine jB C [(.istore 4, 2, 0), (.aload_n 0, 1, 0)] 45 [(4, .int r15), (3, .int x10), (0, .ref (b + v0)), (1, .int v1), (2, .int v2)] [.ref (b + v0)] (by decide +kernel) rfl rfl ?_
      obtain ⟨a16, e_a16, h⟩ := h
      refine jGetR C 48 (by decide +kernel : decode cX11_ground 45 = .ok (.getfield 16, 3)) rfl t_v0 kX11 4 (by decide) rfl rfl (by decide) wd_1158 e_a16 rfl (fun t_a16 => ?_)
      refine jB C [(.iconst 3, 1, 3), (.iload_n 3, 1, 0)] 50 [(4, .int r15), (3, .int x10), (0, .ref (b + v0)), (1, .int v1), (2, .int v2)] [.int x10, .int 3, .ref (b + a16)] (by decide +kernel) rfl rfl ?_
      obtain ⟨y17, h⟩ := h
      refine jIast C 51 (by decide +kernel : decode cX11_ground 50 = .ok (.iastore, 1)) rfl hE t_a16 y17 ?_
      refine jTopS (fun S18 e_S18 => ?_)
      have h := h S18 e_S18
      refine jB C [(.iload 4, 2, 0)] 53 [(4, .int r15), (3, .int x10), (0, .ref (b + v0)), (1, .int v1), (2, .int v2)] [.int r15] (by decide +kernel) rfl rfl ?_
      exact jRetI C (by decide +kernel : decode cX11_ground 53 = .ok (.ireturn, 1)) (Nat.le_refl _) (Nat.le_refl _) ⟨rfl, h⟩
    · have h := it1 h c7
      refine jB C [(.iconst (-1), 1, (-1))] 22 [(0, .ref (b + v0)), (1, .int v1), (2, .int v2)] [.int (-1)] (by decide +kernel) rfl rfl ?_
      exact jRetI C (by decide +kernel : decode cX11_ground 22 = .ok (.ireturn, 1)) (Nat.le_refl _) (Nat.le_refl _) ⟨rfl, h⟩
theorem ok_X11_ground {G : Gm} {v0 : Nat} {v1 : Int32} {v2 : Int32} {S : St} {Q : Int32 → St → Prop} (t_v0 : ok G 10 v0) (h : f_X11_ground G v0 v1 v2 Q S) : MT yX11_ground cX11_ground 5 (some .int) rm_X11_ground 0 0 (fun b => [.ref (b + v0), .int v1, .int v2]) G S (QI (fun r G1 S1 => G1 = G ∧ Q r S1)) := MT.ofJ (by decide) (fun b => [(0, .ref (b + v0)), (1, .int v1), (2, .int v2)]) (fun b => rfl) (fun b => Nat.le_of_ble_eq_true rfl) (fun l b D cy p e s m below meth c C hE hn => j_X11_ground C hE t_v0 h)
theorem hd_X11_ground : yX11_ground.cls ≠ "java/lang/invoke/MethodHandle" ∧ yX11_ground.cls ≠ "java/lang/invoke/VarHandle" ∧ (parseMethodDescriptor yX11_ground.desc).map (fun d => d.parameters.length) = some 2 := by decide +kernel
def f_X11_isIdle_48_n (G : Gm) (k28 : Int32 → Int32 → St → Prop) (v0 : Nat) (v2 : Int32) (v3 : Int32) (v5 : Int32) (Q : Int32 → St → Prop) : Nat → Int32 → Int32 → St → Prop
  | 0, _, _, _ => False
  | n + 1, v6, v7, S => (if v7 ≤ 0 then (if v6 = v5 then k28 1 (v5 + 1) S else k28 0 (v5 + 1) S) else (∃ a3, S.2.2 v0 3 = some a3 ∧ (¬ v7 = 0 ∧ (vp_in ((256 * ((v2 / v7) - (v2 / v7) / 10 * 10)) + v6) (G.2.1 a3) ∧ (∀ x5 : Int32, x5 = S.1 a3 ((256 * ((v2 / v7) - (v2 / v7) / 10 * 10)) + v6).toNatClampNeg → (∀ x6 : Int32, x6 = v7 / 10 → (f_X11_isIdle_48_n G k28 v0 v2 v3 v5 Q n) x5 x6 S))))))
def f_X11_isIdle_48 (G : Gm) (k28 : Int32 → Int32 → St → Prop) (v0 : Nat) (v2 : Int32) (v3 : Int32) (v5 : Int32) (Q : Int32 → St → Prop) (v6 : Int32) (v7 : Int32) (S : St) : Prop := ∃ n, f_X11_isIdle_48_n G k28 v0 v2 v3 v5 Q n v6 v7 S
def f_X11_isIdle_28_n (G : Gm) (v0 : Nat) (v2 : Int32) (v3 : Int32) (Q : Int32 → St → Prop) : Nat → Int32 → Int32 → St → Prop
  | 0, _, _, _ => False
  | n + 1, v4, v5, S => (if 256 ≤ v5 then ((v4 = 0 ∨ v4 = 1) ∧ Q v4 S) else (if v4 = 0 then ((v4 = 0 ∨ v4 = 1) ∧ Q v4 S) else f_X11_isIdle_48 G (f_X11_isIdle_28_n G v0 v2 v3 Q n) v0 v2 v3 v5 Q v5 v3 S))
def f_X11_isIdle_28 (G : Gm) (v0 : Nat) (v2 : Int32) (v3 : Int32) (Q : Int32 → St → Prop) (v4 : Int32) (v5 : Int32) (S : St) : Prop := ∃ n, f_X11_isIdle_28_n G v0 v2 v3 Q n v4 v5 S
def f_X11_isIdle_5_n (G : Gm) (v0 : Nat) (v1 : Int32) (v2 : Int32) (Q : Int32 → St → Prop) : Nat → Int32 → Int32 → St → Prop
  | 0, _, _, _ => False
  | n + 1, v3, v4, S => (if v1 ≤ v4 then f_X11_isIdle_28 G v0 v2 v3 Q 1 0 S else (∀ x2 : Int32, x2 = v3 * 10 → (f_X11_isIdle_5_n G v0 v1 v2 Q n) x2 (v4 + 1) S))
def f_X11_isIdle_5 (G : Gm) (v0 : Nat) (v1 : Int32) (v2 : Int32) (Q : Int32 → St → Prop) (v3 : Int32) (v4 : Int32) (S : St) : Prop := ∃ n, f_X11_isIdle_5_n G v0 v1 v2 Q n v3 v4 S
def f_X11_isIdle (G : Gm) (v0 : Nat) (v1 : Int32) (v2 : Int32) (Q : Int32 → St → Prop) (S : St) : Prop :=
  f_X11_isIdle_5 G v0 v1 v2 Q 1 1 S
abbrev rm_X11_isIdle : Room := { frames := 0, cells := 0, slots := 0, locals := 0 }
set_option maxHeartbeats 4000000 in
set_option maxRecDepth 100000 in
theorem j_X11_isIdle_48_n {p : Program} {l : Launch} {e : Env} {s : State} {m : MethodId} {args : Array Value} {below : List Frame} {meth : Method} {c : Code} {b : Nat} {D : va_G} {cy : Nat → ClassId} {G : Gm} {k28 : Int32 → Int32 → St → Prop} {v0 : Nat} {v2 : Int32} {v3 : Int32} {v5 : Int32} {Q : Int32 → St → Prop} (C : CX p s m args meth c b D cy cX11_isIdle RX11 8 (some .boolean)) (hE : s.heap.size + 0 ≤ b + G.2.2) (t_v0 : ok G 10 v0) (hk28 : ∀ v4' v5' S, k28 v4' v5' S → J p l e rm_X11_isIdle s m args below meth c b D cy 8 (zI b D cy below args s G Q) 0 0 G S 28 [(0, .ref (b + v0)), (2, .int v2), (3, .int v3), (4, .int (v4')), (5, .int (v5'))] []) : ∀ n (v6 : Int32) (v7 : Int32) S, f_X11_isIdle_48_n G k28 v0 v2 v3 v5 Q n v6 v7 S → J p l e rm_X11_isIdle s m args below meth c b D cy 8 (zI b D cy below args s G Q) 0 0 G S 48 [(0, .ref (b + v0)), (2, .int v2), (3, .int v3), (5, .int v5), (6, .int v6), (7, .int v7)] [] := by
  intro n
  induction n with
  | zero => intro v6 v7 S h; exact h.elim
  | succ n ih =>
    intro v6 v7 S h
    unfold f_X11_isIdle_48_n at h
    refine jB C [(.iload 7, 2, 0)] 50 [(0, .ref (b + v0)), (2, .int v2), (3, .int v3), (5, .int v5), (6, .int v6), (7, .int v7)] [.int v7] (by decide +kernel) rfl rfl ?_
    refine jIf_le C 53 84 (by decide +kernel : decode cX11_isIdle 50 = .ok (.ifCond .le 34, 3)) rfl rfl (fun c1 => ?_) (fun c1 => ?_)
    · have h := it1 h c1
      refine jB C [(.iload 6, 2, 0), (.iload 5, 2, 0)] 88 [(0, .ref (b + v0)), (2, .int v2), (3, .int v3), (5, .int v5), (6, .int v6), (7, .int v7)] [.int v5, .int v6] (by decide +kernel) rfl rfl ?_
      refine jIcmp_ne C 91 95 (by decide +kernel : decode cX11_isIdle 88 = .ok (.if_icmp .ne 7, 3)) rfl rfl (fun c2 => ?_) (fun c2 => ?_)
      · have h := it2 h c2
        refine jB C [(.iconst 0, 1, 0), (.istore 4, 2, 0), (.iinc 5 1, 3, 1)] 101 [(5, .int (v5 + 1)), (4, .int 0), (0, .ref (b + v0)), (2, .int v2), (3, .int v3), (6, .int v6), (7, .int v7)] [] (by decide +kernel) rfl rfl ?_
        refine jGoto C 28 (by decide +kernel : decode cX11_isIdle 101 = .ok (.goto (-73), 3)) rfl ?_
        refine jSub [2, 3, 4, 1, 0] rfl ?_
        exact hk28 0 (v5 + 1) S h
      · have h := it1 h c2
        refine jB C [(.iconst 1, 1, 1)] 92 [(0, .ref (b + v0)), (2, .int v2), (3, .int v3), (5, .int v5), (6, .int v6), (7, .int v7)] [.int 1] (by decide +kernel) rfl rfl ?_
        refine jGoto C 96 (by decide +kernel : decode cX11_isIdle 92 = .ok (.goto 4, 3)) rfl ?_
        refine jB C [(.istore 4, 2, 0), (.iinc 5 1, 3, 1)] 101 [(5, .int (v5 + 1)), (4, .int 1), (0, .ref (b + v0)), (2, .int v2), (3, .int v3), (6, .int v6), (7, .int v7)] [] (by decide +kernel) rfl rfl ?_
        refine jGoto C 28 (by decide +kernel : decode cX11_isIdle 101 = .ok (.goto (-73), 3)) rfl ?_
        refine jSub [2, 3, 4, 1, 0] rfl ?_
        exact hk28 1 (v5 + 1) S h
    · have h := it2 h c1
      refine jB C [(.aload_n 0, 1, 0)] 54 [(0, .ref (b + v0)), (2, .int v2), (3, .int v3), (5, .int v5), (6, .int v6), (7, .int v7)] [.ref (b + v0)] (by decide +kernel) rfl rfl ?_
      obtain ⟨a3, e_a3, h⟩ := h
      refine jGetR C 57 (by decide +kernel : decode cX11_isIdle 54 = .ok (.getfield 13, 3)) rfl t_v0 kX11 3 (by decide) rfl rfl (by decide) wd_1157 e_a3 rfl (fun t_a3 => ?_)
      refine jB C [(.sipush 256, 3, 256), (.iload_n 2, 1, 0), (.iload 7, 2, 0)] 63 [(0, .ref (b + v0)), (2, .int v2), (3, .int v3), (5, .int v5), (6, .int v6), (7, .int v7)] [.int v7, .int v2, .int 256, .ref (b + a3)] (by decide +kernel) rfl rfl ?_
      obtain ⟨y7, h⟩ := h
      refine jIdiv C 64 (by decide +kernel : decode cX11_isIdle 63 = .ok (.idiv, 1)) rfl y7 ?_
      refine jB C [(.bipush 10, 2, 10)] 66 [(0, .ref (b + v0)), (2, .int v2), (3, .int v3), (5, .int v5), (6, .int v6), (7, .int v7)] [.int 10, .int (v2 / v7), .int 256, .ref (b + a3)] (by decide +kernel) rfl rfl ?_
      refine jIrem C 67 (by decide +kernel : decode cX11_isIdle 66 = .ok (.irem, 1)) rfl (by decide) ?_
      refine jB C [(.imul, 1, 0), (.iload 6, 2, 0), (.iadd, 1, 0)] 71 [(0, .ref (b + v0)), (2, .int v2), (3, .int v3), (5, .int v5), (6, .int v6), (7, .int v7)] [.int ((256 * ((v2 / v7) - (v2 / v7) / 10 * 10)) + v6), .ref (b + a3)] (by decide +kernel) rfl rfl ?_
      obtain ⟨y4, h⟩ := h
      refine jIald C 72 (by decide +kernel : decode cX11_isIdle 71 = .ok (.iaload, 1)) rfl t_a3 y4 ?_
      refine jTopI (fun x5 e_x5 => ?_)
      have h := h x5 e_x5
      refine jB C [(.istore 6, 2, 0), (.iload 7, 2, 0), (.bipush 10, 2, 10)] 78 [(6, .int x5), (0, .ref (b + v0)), (2, .int v2), (3, .int v3), (5, .int v5), (7, .int v7)] [.int 10, .int v7] (by decide +kernel) rfl rfl ?_
      refine jIdiv C 79 (by decide +kernel : decode cX11_isIdle 78 = .ok (.idiv, 1)) rfl (by decide) ?_
      refine jTopI (fun x6 e_x6 => ?_)
      have h := h x6 e_x6
      refine jB C [(.istore 7, 2, 0)] 81 [(7, .int x6), (6, .int x5), (0, .ref (b + v0)), (2, .int v2), (3, .int v3), (5, .int v5)] [] (by decide +kernel) rfl rfl ?_
      refine jGoto C 48 (by decide +kernel : decode cX11_isIdle 81 = .ok (.goto (-33), 3)) rfl ?_
      refine jSub [2, 3, 4, 5, 1, 0] rfl ?_
      exact ih x5 x6 S h
theorem j_X11_isIdle_48 {p : Program} {l : Launch} {e : Env} {s : State} {m : MethodId} {args : Array Value} {below : List Frame} {meth : Method} {c : Code} {b : Nat} {D : va_G} {cy : Nat → ClassId} {G : Gm} {k28 : Int32 → Int32 → St → Prop} {v0 : Nat} {v2 : Int32} {v3 : Int32} {v5 : Int32} {v6 : Int32} {v7 : Int32} {S : St} {Q : Int32 → St → Prop} (C : CX p s m args meth c b D cy cX11_isIdle RX11 8 (some .boolean)) (hE : s.heap.size + 0 ≤ b + G.2.2) (t_v0 : ok G 10 v0) (hk28 : ∀ v4' v5' S, k28 v4' v5' S → J p l e rm_X11_isIdle s m args below meth c b D cy 8 (zI b D cy below args s G Q) 0 0 G S 28 [(0, .ref (b + v0)), (2, .int v2), (3, .int v3), (4, .int (v4')), (5, .int (v5'))] []) (h : f_X11_isIdle_48 G k28 v0 v2 v3 v5 Q v6 v7 S) : J p l e rm_X11_isIdle s m args below meth c b D cy 8 (zI b D cy below args s G Q) 0 0 G S 48 [(0, .ref (b + v0)), (2, .int v2), (3, .int v3), (5, .int v5), (6, .int v6), (7, .int v7)] [] := by
  obtain ⟨n, h⟩ := h
  exact j_X11_isIdle_48_n C hE t_v0 hk28 n v6 v7 S h
set_option maxHeartbeats 4000000 in
set_option maxRecDepth 100000 in
theorem j_X11_isIdle_28_n {p : Program} {l : Launch} {e : Env} {s : State} {m : MethodId} {args : Array Value} {below : List Frame} {meth : Method} {c : Code} {b : Nat} {D : va_G} {cy : Nat → ClassId} {G : Gm} {v0 : Nat} {v2 : Int32} {v3 : Int32} {Q : Int32 → St → Prop} (C : CX p s m args meth c b D cy cX11_isIdle RX11 8 (some .boolean)) (hE : s.heap.size + 0 ≤ b + G.2.2) (t_v0 : ok G 10 v0) : ∀ n (v4 : Int32) (v5 : Int32) S, f_X11_isIdle_28_n G v0 v2 v3 Q n v4 v5 S → J p l e rm_X11_isIdle s m args below meth c b D cy 8 (zI b D cy below args s G Q) 0 0 G S 28 [(0, .ref (b + v0)), (2, .int v2), (3, .int v3), (4, .int v4), (5, .int v5)] [] := by
  intro n
  induction n with
  | zero => intro v4 v5 S h; exact h.elim
  | succ n ih =>
    intro v4 v5 S h
    unfold f_X11_isIdle_28_n at h
    refine jB C [(.iload 5, 2, 0), (.sipush 256, 3, 256)] 33 [(0, .ref (b + v0)), (2, .int v2), (3, .int v3), (4, .int v4), (5, .int v5)] [.int 256, .int v5] (by decide +kernel) rfl rfl ?_
    refine jIcmp_ge C 36 104 (by decide +kernel : decode cX11_isIdle 33 = .ok (.if_icmp .ge 71, 3)) rfl rfl (fun c1 => ?_) (fun c1 => ?_)
    · have h := it1 h c1
      refine jB C [(.iload 4, 2, 0)] 106 [(0, .ref (b + v0)), (2, .int v2), (3, .int v3), (4, .int v4), (5, .int v5)] [.int v4] (by decide +kernel) rfl rfl ?_
      exact jRetZ C (by decide +kernel : decode cX11_isIdle 106 = .ok (.ireturn, 1)) (Nat.le_refl _) (Nat.le_refl _) h.1 ⟨rfl, h.2⟩
    · have h := it2 h c1
      refine jB C [(.iload 4, 2, 0)] 38 [(0, .ref (b + v0)), (2, .int v2), (3, .int v3), (4, .int v4), (5, .int v5)] [.int v4] (by decide +kernel) rfl rfl ?_
      refine jIf_eq C 41 104 (by decide +kernel : decode cX11_isIdle 38 = .ok (.ifCond .eq 66, 3)) rfl rfl (fun c2 => ?_) (fun c2 => ?_)
      · have h := it1 h c2
        refine jB C [(.iload 4, 2, 0)] 106 [(0, .ref (b + v0)), (2, .int v2), (3, .int v3), (4, .int v4), (5, .int v5)] [.int v4] (by decide +kernel) rfl rfl ?_
        exact jRetZ C (by decide +kernel : decode cX11_isIdle 106 = .ok (.ireturn, 1)) (Nat.le_refl _) (Nat.le_refl _) h.1 ⟨rfl, h.2⟩
      · have h := it2 h c2
        refine jB C [(.iload 5, 2, 0), (.istore 6, 2, 0), (.iload_n 3, 1, 0), (.istore 7, 2, 0)] 48 [(7, .int v3), (6, .int v5), (0, .ref (b + v0)), (2, .int v2), (3, .int v3), (4, .int v4), (5, .int v5)] [] (by decide +kernel) rfl rfl ?_
        refine jSub [2, 3, 4, 6, 1, 0] rfl ?_
        exact j_X11_isIdle_48 C hE t_v0 ih h
theorem j_X11_isIdle_28 {p : Program} {l : Launch} {e : Env} {s : State} {m : MethodId} {args : Array Value} {below : List Frame} {meth : Method} {c : Code} {b : Nat} {D : va_G} {cy : Nat → ClassId} {G : Gm} {v0 : Nat} {v2 : Int32} {v3 : Int32} {v4 : Int32} {v5 : Int32} {S : St} {Q : Int32 → St → Prop} (C : CX p s m args meth c b D cy cX11_isIdle RX11 8 (some .boolean)) (hE : s.heap.size + 0 ≤ b + G.2.2) (t_v0 : ok G 10 v0) (h : f_X11_isIdle_28 G v0 v2 v3 Q v4 v5 S) : J p l e rm_X11_isIdle s m args below meth c b D cy 8 (zI b D cy below args s G Q) 0 0 G S 28 [(0, .ref (b + v0)), (2, .int v2), (3, .int v3), (4, .int v4), (5, .int v5)] [] := by
  obtain ⟨n, h⟩ := h
  exact j_X11_isIdle_28_n C hE t_v0 n v4 v5 S h
set_option maxHeartbeats 4000000 in
set_option maxRecDepth 100000 in
theorem j_X11_isIdle_5_n {p : Program} {l : Launch} {e : Env} {s : State} {m : MethodId} {args : Array Value} {below : List Frame} {meth : Method} {c : Code} {b : Nat} {D : va_G} {cy : Nat → ClassId} {G : Gm} {v0 : Nat} {v1 : Int32} {v2 : Int32} {Q : Int32 → St → Prop} (C : CX p s m args meth c b D cy cX11_isIdle RX11 8 (some .boolean)) (hE : s.heap.size + 0 ≤ b + G.2.2) (t_v0 : ok G 10 v0) : ∀ n (v3 : Int32) (v4 : Int32) S, f_X11_isIdle_5_n G v0 v1 v2 Q n v3 v4 S → J p l e rm_X11_isIdle s m args below meth c b D cy 8 (zI b D cy below args s G Q) 0 0 G S 5 [(0, .ref (b + v0)), (1, .int v1), (2, .int v2), (3, .int v3), (4, .int v4)] [] := by
  intro n
  induction n with
  | zero => intro v3 v4 S h; exact h.elim
  | succ n ih =>
    intro v3 v4 S h
    unfold f_X11_isIdle_5_n at h
    refine jB C [(.iload 4, 2, 0), (.iload_n 1, 1, 0)] 8 [(0, .ref (b + v0)), (1, .int v1), (2, .int v2), (3, .int v3), (4, .int v4)] [.int v1, .int v4] (by decide +kernel) rfl rfl ?_
    refine jIcmp_ge C 11 22 (by decide +kernel : decode cX11_isIdle 8 = .ok (.if_icmp .ge 14, 3)) rfl rfl (fun c1 => ?_) (fun c1 => ?_)
    · have h := it1 h c1
      refine jB C [(.iconst 1, 1, 1), (.istore 4, 2, 0), (.iconst 0, 1, 0), (.istore 5, 2, 0)] 28 [(5, .int 0), (4, .int 1), (0, .ref (b + v0)), (1, .int v1), (2, .int v2), (3, .int v3)] [] (by decide +kernel) rfl rfl ?_
      refine jSub [2, 4, 5, 1, 0] rfl ?_
      exact j_X11_isIdle_28 C hE t_v0 h
    · have h := it2 h c1
      refine jB C [(.iload_n 3, 1, 0), (.bipush 10, 2, 10), (.imul, 1, 0)] 15 [(0, .ref (b + v0)), (1, .int v1), (2, .int v2), (3, .int v3), (4, .int v4)] [.int (v3 * 10)] (by decide +kernel) rfl rfl ?_
      refine jTopI (fun x2 e_x2 => ?_)
      have h := h x2 e_x2
      refine jB C [(.istore_n 3, 1, 0), (.iinc 4 1, 3, 1)] 19 [(4, .int (v4 + 1)), (3, .int x2), (0, .ref (b + v0)), (1, .int v1), (2, .int v2)] [] (by decide +kernel) rfl rfl ?_
      refine jGoto C 5 (by decide +kernel : decode cX11_isIdle 19 = .ok (.goto (-14), 3)) rfl ?_
      refine jSub [2, 3, 4, 1, 0] rfl ?_
      exact ih x2 (v4 + 1) S h
theorem j_X11_isIdle_5 {p : Program} {l : Launch} {e : Env} {s : State} {m : MethodId} {args : Array Value} {below : List Frame} {meth : Method} {c : Code} {b : Nat} {D : va_G} {cy : Nat → ClassId} {G : Gm} {v0 : Nat} {v1 : Int32} {v2 : Int32} {v3 : Int32} {v4 : Int32} {S : St} {Q : Int32 → St → Prop} (C : CX p s m args meth c b D cy cX11_isIdle RX11 8 (some .boolean)) (hE : s.heap.size + 0 ≤ b + G.2.2) (t_v0 : ok G 10 v0) (h : f_X11_isIdle_5 G v0 v1 v2 Q v3 v4 S) : J p l e rm_X11_isIdle s m args below meth c b D cy 8 (zI b D cy below args s G Q) 0 0 G S 5 [(0, .ref (b + v0)), (1, .int v1), (2, .int v2), (3, .int v3), (4, .int v4)] [] := by
  obtain ⟨n, h⟩ := h
  exact j_X11_isIdle_5_n C hE t_v0 n v3 v4 S h
set_option maxHeartbeats 4000000 in
set_option maxRecDepth 100000 in
theorem j_X11_isIdle {p : Program} {l : Launch} {e : Env} {s : State} {m : MethodId} {args : Array Value} {below : List Frame} {meth : Method} {c : Code} {b : Nat} {D : va_G} {cy : Nat → ClassId} {G : Gm} {v0 : Nat} {v1 : Int32} {v2 : Int32} {S : St} {Q : Int32 → St → Prop} (C : CX p s m args meth c b D cy cX11_isIdle RX11 8 (some .boolean)) (hE : s.heap.size + 0 ≤ b + G.2.2) (t_v0 : ok G 10 v0) (h : f_X11_isIdle G v0 v1 v2 Q S) : J p l e rm_X11_isIdle s m args below meth c b D cy 8 (zI b D cy below args s G Q) 0 0 G S 0 [(0, .ref (b + v0)), (1, .int v1), (2, .int v2)] [] := by
  unfold f_X11_isIdle at h
  refine jB C [(.iconst 1, 1, 1), (.istore_n 3, 1, 0), (.iconst 1, 1, 1), (.istore 4, 2, 0)] 5 [(4, .int 1), (3, .int 1), (0, .ref (b + v0)), (1, .int v1), (2, .int v2)] [] (by decide +kernel) rfl rfl ?_
  refine jSub [2, 3, 4, 1, 0] rfl ?_
  exact j_X11_isIdle_5 C hE t_v0 h
theorem ok_X11_isIdle {G : Gm} {v0 : Nat} {v1 : Int32} {v2 : Int32} {S : St} {Q : Int32 → St → Prop} (t_v0 : ok G 10 v0) (h : f_X11_isIdle G v0 v1 v2 Q S) : MT yX11_isIdle cX11_isIdle 8 (some .boolean) rm_X11_isIdle 0 0 (fun b => [.ref (b + v0), .int v1, .int v2]) G S (QI (fun r G1 S1 => G1 = G ∧ Q r S1)) := MT.ofJ (by decide) (fun b => [(0, .ref (b + v0)), (1, .int v1), (2, .int v2)]) (fun b => rfl) (fun b => Nat.le_of_ble_eq_true rfl) (fun l b D cy p e s m below meth c C hE hn => j_X11_isIdle C hE t_v0 h)
theorem hd_X11_isIdle : yX11_isIdle.cls ≠ "java/lang/invoke/MethodHandle" ∧ yX11_isIdle.cls ≠ "java/lang/invoke/VarHandle" ∧ (parseMethodDescriptor yX11_isIdle.desc).map (fun d => d.parameters.length) = some 2 := by decide +kernel
def f_X11_idle_69_n (G : Gm) (k50 : Int32 → Int32 → Int32 → St → Prop) (v0 : Nat) (v1 : Int32) (v2 : Int32) (v3 : Int32) (v4 : Int32) (v5 : Int32) (v6 : Int32) (Q : Int32 → St → Prop) : Nat → Int32 → Int32 → Int32 → Int32 → St → Prop
  | 0, _, _, _, _, _ => False
  | n + 1, v7, v8, v9, v10, S => (if v1 ≤ v10 then f_X11_isIdle G v0 v1 v7 (fun r3 S2 => (if r3 = 0 then k50 v4 v5 (v6 + 1) S2 else (if v4 = v2 then k50 (v4 + 1) v7 (v6 + 1) S2 else k50 (v4 + 1) v5 (v6 + 1) S2))) S else (∀ x6 : Int32, x6 = v7 + (v8 * ((v9 - v9 / 7 * 7) + 1)) → (∀ x7 : Int32, x7 = v8 * 10 → (∀ x8 : Int32, x8 = v9 / 7 → (f_X11_idle_69_n G k50 v0 v1 v2 v3 v4 v5 v6 Q n) x6 x7 x8 (v10 + 1) S))))
def f_X11_idle_69 (G : Gm) (k50 : Int32 → Int32 → Int32 → St → Prop) (v0 : Nat) (v1 : Int32) (v2 : Int32) (v3 : Int32) (v4 : Int32) (v5 : Int32) (v6 : Int32) (Q : Int32 → St → Prop) (v7 : Int32) (v8 : Int32) (v9 : Int32) (v10 : Int32) (S : St) : Prop := ∃ n, f_X11_idle_69_n G k50 v0 v1 v2 v3 v4 v5 v6 Q n v7 v8 v9 v10 S
def f_X11_idle_50_n (G : Gm) (v0 : Nat) (v1 : Int32) (v2 : Int32) (v3 : Int32) (Q : Int32 → St → Prop) : Nat → Int32 → Int32 → Int32 → St → Prop
  | 0, _, _, _, _ => False
  | n + 1, v4, v5, v6, S => (if v3 ≤ v6 then (if v2 = (-1) then Q v4 S else Q v5 S) else f_X11_idle_69 G (f_X11_idle_50_n G v0 v1 v2 v3 Q n) v0 v1 v2 v3 v4 v5 v6 Q 0 1 v6 0 S)
def f_X11_idle_50 (G : Gm) (v0 : Nat) (v1 : Int32) (v2 : Int32) (v3 : Int32) (Q : Int32 → St → Prop) (v4 : Int32) (v5 : Int32) (v6 : Int32) (S : St) : Prop := ∃ n, f_X11_idle_50_n G v0 v1 v2 v3 Q n v4 v5 v6 S
def f_X11_idle_24_n (G : Gm) (v0 : Nat) (v1 : Int32) (v2 : Int32) (Q : Int32 → St → Prop) : Nat → Int32 → Int32 → St → Prop
  | 0, _, _, _ => False
  | n + 1, v3, v4, S => (if v1 ≤ v4 then f_X11_idle_50 G v0 v1 v2 v3 Q 0 (-1) 0 S else (∀ x2 : Int32, x2 = v3 * 7 → (f_X11_idle_24_n G v0 v1 v2 Q n) x2 (v4 + 1) S))
def f_X11_idle_24 (G : Gm) (v0 : Nat) (v1 : Int32) (v2 : Int32) (Q : Int32 → St → Prop) (v3 : Int32) (v4 : Int32) (S : St) : Prop := ∃ n, f_X11_idle_24_n G v0 v1 v2 Q n v3 v4 S
def f_X11_idle (G : Gm) (v0 : Nat) (v1 : Int32) (v2 : Int32) (Q : Int32 → St → Prop) (S : St) : Prop :=
  (∀ S1, S1 = uI S v0 0 0 → f_X11_in G v1.toInt64 1 4 (fun r3 S2 => (if r3 = 0 then Q (-1) S2 else f_X11_idle_24 G v0 v1 v2 Q 1 0 S2)) S1)
abbrev rm_X11_idle : Room := { frames := 1, cells := 0, slots := 0, locals := 27 }
set_option maxHeartbeats 4000000 in
set_option maxRecDepth 100000 in
theorem j_X11_idle_69_n {p : Program} {l : Launch} {e : Env} {s : State} {m : MethodId} {args : Array Value} {below : List Frame} {meth : Method} {c : Code} {b : Nat} {D : va_G} {cy : Nat → ClassId} {G : Gm} {k50 : Int32 → Int32 → Int32 → St → Prop} {v0 : Nat} {v1 : Int32} {v2 : Int32} {v3 : Int32} {v4 : Int32} {v5 : Int32} {v6 : Int32} {Q : Int32 → St → Prop} (C : CX p s m args meth c b D cy cX11_idle RX11 11 (some .int)) (hE : s.heap.size + 0 ≤ b + G.2.2) (t_v0 : ok G 10 v0) (hk50 : ∀ v4' v5' v6' S, k50 v4' v5' v6' S → J p l e rm_X11_idle s m args below meth c b D cy 11 (zI b D cy below args s G Q) 0 0 G S 50 [(0, .ref (b + v0)), (1, .int v1), (2, .int v2), (3, .int v3), (4, .int (v4')), (5, .int (v5')), (6, .int (v6'))] []) : ∀ n (v7 : Int32) (v8 : Int32) (v9 : Int32) (v10 : Int32) S, f_X11_idle_69_n G k50 v0 v1 v2 v3 v4 v5 v6 Q n v7 v8 v9 v10 S → J p l e rm_X11_idle s m args below meth c b D cy 11 (zI b D cy below args s G Q) 0 0 G S 69 [(0, .ref (b + v0)), (1, .int v1), (2, .int v2), (3, .int v3), (4, .int v4), (5, .int v5), (6, .int v6), (7, .int v7), (8, .int v8), (9, .int v9), (10, .int v10)] [] := by
  intro n
  induction n with
  | zero => intro v7 v8 v9 v10 S h; exact h.elim
  | succ n ih =>
    intro v7 v8 v9 v10 S h
    unfold f_X11_idle_69_n at h
    refine jB C [(.iload 10, 2, 0), (.iload_n 1, 1, 0)] 72 [(0, .ref (b + v0)), (1, .int v1), (2, .int v2), (3, .int v3), (4, .int v4), (5, .int v5), (6, .int v6), (7, .int v7), (8, .int v8), (9, .int v9), (10, .int v10)] [.int v1, .int v10] (by decide +kernel) rfl rfl ?_
    refine jIcmp_ge C 75 110 (by decide +kernel : decode cX11_idle 72 = .ok (.if_icmp .ge 38, 3)) rfl rfl (fun c1 => ?_) (fun c1 => ?_)
    · have h := it1 h c1
      refine jB C [(.aload_n 0, 1, 0), (.iload_n 1, 1, 0), (.iload 7, 2, 0)] 114 [(0, .ref (b + v0)), (1, .int v1), (2, .int v2), (3, .int v3), (4, .int v4), (5, .int v5), (6, .int v6), (7, .int v7), (8, .int v8), (9, .int v9), (10, .int v10)] [.int v7, .int v1, .ref (b + v0)] (by decide +kernel) rfl rfl ?_
      refine jcV_I C 117 (rest := []) (ok_X11_isIdle t_v0 h) (by decide +kernel : decode cX11_idle 114 = .ok (.invokevirtual 519, 3)) rfl wd_1769 wd_1771 wp_161 wd_12 wd_1772 ⟨rfl, rfl⟩ hd_X11_isIdle ⟨Nat.le_of_ble_eq_true rfl, Nat.le_of_ble_eq_true rfl⟩ t_v0 kX11 (by decide) rfl rfl rfl (Nat.le_of_ble_eq_true rfl) ⟨Nat.zero_le _, Nat.zero_le _⟩ (fun r3 S2 h => ?_)
      refine jIf_eq C 120 138 (by decide +kernel : decode cX11_idle 117 = .ok (.ifCond .eq 21, 3)) rfl rfl (fun c4 => ?_) (fun c4 => ?_)
      · have h := it1 h c4
        refine jB C [(.iinc 6 1, 3, 1)] 141 [(6, .int (v6 + 1)), (0, .ref (b + v0)), (1, .int v1), (2, .int v2), (3, .int v3), (4, .int v4), (5, .int v5), (7, .int v7), (8, .int v8), (9, .int v9), (10, .int v10)] [] (by decide +kernel) rfl rfl ?_
        refine jGoto C 50 (by decide +kernel : decode cX11_idle 141 = .ok (.goto (-91), 3)) rfl ?_
        refine jSub [1, 2, 3, 4, 5, 6, 0] rfl ?_
        exact hk50 v4 v5 (v6 + 1) S2 h
      · have h := it2 h c4
        refine jB C [(.iload 4, 2, 0), (.iload_n 2, 1, 0)] 123 [(0, .ref (b + v0)), (1, .int v1), (2, .int v2), (3, .int v3), (4, .int v4), (5, .int v5), (6, .int v6), (7, .int v7), (8, .int v8), (9, .int v9), (10, .int v10)] [.int v2, .int v4] (by decide +kernel) rfl rfl ?_
        refine jIcmp_ne C 126 131 (by decide +kernel : decode cX11_idle 123 = .ok (.if_icmp .ne 8, 3)) rfl rfl (fun c5 => ?_) (fun c5 => ?_)
        · have h := it2 h c5
          refine jB C [(.iload 5, 2, 0), (.istore 5, 2, 0), (.iinc 4 1, 3, 1), (.iinc 6 1, 3, 1)] 141 [(6, .int (v6 + 1)), (4, .int (v4 + 1)), (5, .int v5), (0, .ref (b + v0)), (1, .int v1), (2, .int v2), (3, .int v3), (7, .int v7), (8, .int v8), (9, .int v9), (10, .int v10)] [] (by decide +kernel) rfl rfl ?_
          refine jGoto C 50 (by decide +kernel : decode cX11_idle 141 = .ok (.goto (-91), 3)) rfl ?_
          refine jSub [3, 4, 5, 6, 1, 2, 0] rfl ?_
          exact hk50 (v4 + 1) v5 (v6 + 1) S2 h
        · have h := it1 h c5
          refine jB C [(.iload 7, 2, 0)] 128 [(0, .ref (b + v0)), (1, .int v1), (2, .int v2), (3, .int v3), (4, .int v4), (5, .int v5), (6, .int v6), (7, .int v7), (8, .int v8), (9, .int v9), (10, .int v10)] [.int v7] (by decide +kernel) rfl rfl ?_
          refine jGoto C 133 (by decide +kernel : decode cX11_idle 128 = .ok (.goto 5, 3)) rfl ?_
          refine jB C [(.istore 5, 2, 0), (.iinc 4 1, 3, 1), (.iinc 6 1, 3, 1)] 141 [(6, .int (v6 + 1)), (4, .int (v4 + 1)), (5, .int v7), (0, .ref (b + v0)), (1, .int v1), (2, .int v2), (3, .int v3), (7, .int v7), (8, .int v8), (9, .int v9), (10, .int v10)] [] (by decide +kernel) rfl rfl ?_
          refine jGoto C 50 (by decide +kernel : decode cX11_idle 141 = .ok (.goto (-91), 3)) rfl ?_
          refine jSub [3, 4, 5, 6, 1, 2, 0] rfl ?_
          exact hk50 (v4 + 1) v7 (v6 + 1) S2 h
    · have h := it2 h c1
      refine jB C [(.iload 7, 2, 0), (.iload 8, 2, 0), (.iload 9, 2, 0), (.bipush 7, 2, 7)] 83 [(0, .ref (b + v0)), (1, .int v1), (2, .int v2), (3, .int v3), (4, .int v4), (5, .int v5), (6, .int v6), (7, .int v7), (8, .int v8), (9, .int v9), (10, .int v10)] [.int 7, .int v9, .int v8, .int v7] (by decide +kernel) rfl rfl ?_
      refine jIrem C 84 (by decide +kernel : decode cX11_idle 83 = .ok (.irem, 1)) rfl (by decide) ?_
      refine jB C [(.iconst 1, 1, 1), (.iadd, 1, 0), (.imul, 1, 0), (.iadd, 1, 0)] 88 [(0, .ref (b + v0)), (1, .int v1), (2, .int v2), (3, .int v3), (4, .int v4), (5, .int v5), (6, .int v6), (7, .int v7), (8, .int v8), (9, .int v9), (10, .int v10)] [.int (v7 + (v8 * ((v9 - v9 / 7 * 7) + 1)))] (by decide +kernel) rfl rfl ?_
      refine jTopI (fun x6 e_x6 => ?_)
      have h := h x6 e_x6
      refine jB C [(.istore 7, 2, 0), (.iload 8, 2, 0), (.bipush 10, 2, 10), (.imul, 1, 0)] 95 [(7, .int x6), (0, .ref (b + v0)), (1, .int v1), (2, .int v2), (3, .int v3), (4, .int v4), (5, .int v5), (6, .int v6), (8, .int v8), (9, .int v9), (10, .int v10)] [.int (v8 * 10)] (by decide +kernel) rfl rfl ?_
      refine jTopI (fun x7 e_x7 => ?_)
      have h := h x7 e_x7
      refine jB C [(.istore 8, 2, 0), (.iload 9, 2, 0), (.bipush 7, 2, 7)] 101 [(8, .int x7), (7, .int x6), (0, .ref (b + v0)), (1, .int v1), (2, .int v2), (3, .int v3), (4, .int v4), (5, .int v5), (6, .int v6), (9, .int v9), (10, .int v10)] [.int 7, .int v9] (by decide +kernel) rfl rfl ?_
      refine jIdiv C 102 (by decide +kernel : decode cX11_idle 101 = .ok (.idiv, 1)) rfl (by decide) ?_
      refine jTopI (fun x8 e_x8 => ?_)
      have h := h x8 e_x8
      refine jB C [(.istore 9, 2, 0), (.iinc 10 1, 3, 1)] 107 [(10, .int (v10 + 1)), (9, .int x8), (8, .int x7), (7, .int x6), (0, .ref (b + v0)), (1, .int v1), (2, .int v2), (3, .int v3), (4, .int v4), (5, .int v5), (6, .int v6)] [] (by decide +kernel) rfl rfl ?_
      refine jGoto C 69 (by decide +kernel : decode cX11_idle 107 = .ok (.goto (-38), 3)) rfl ?_
      refine jSub [4, 5, 6, 7, 8, 9, 10, 3, 2, 1, 0] rfl ?_
      exact ih x6 x7 x8 (v10 + 1) S h
theorem j_X11_idle_69 {p : Program} {l : Launch} {e : Env} {s : State} {m : MethodId} {args : Array Value} {below : List Frame} {meth : Method} {c : Code} {b : Nat} {D : va_G} {cy : Nat → ClassId} {G : Gm} {k50 : Int32 → Int32 → Int32 → St → Prop} {v0 : Nat} {v1 : Int32} {v2 : Int32} {v3 : Int32} {v4 : Int32} {v5 : Int32} {v6 : Int32} {v7 : Int32} {v8 : Int32} {v9 : Int32} {v10 : Int32} {S : St} {Q : Int32 → St → Prop} (C : CX p s m args meth c b D cy cX11_idle RX11 11 (some .int)) (hE : s.heap.size + 0 ≤ b + G.2.2) (t_v0 : ok G 10 v0) (hk50 : ∀ v4' v5' v6' S, k50 v4' v5' v6' S → J p l e rm_X11_idle s m args below meth c b D cy 11 (zI b D cy below args s G Q) 0 0 G S 50 [(0, .ref (b + v0)), (1, .int v1), (2, .int v2), (3, .int v3), (4, .int (v4')), (5, .int (v5')), (6, .int (v6'))] []) (h : f_X11_idle_69 G k50 v0 v1 v2 v3 v4 v5 v6 Q v7 v8 v9 v10 S) : J p l e rm_X11_idle s m args below meth c b D cy 11 (zI b D cy below args s G Q) 0 0 G S 69 [(0, .ref (b + v0)), (1, .int v1), (2, .int v2), (3, .int v3), (4, .int v4), (5, .int v5), (6, .int v6), (7, .int v7), (8, .int v8), (9, .int v9), (10, .int v10)] [] := by
  obtain ⟨n, h⟩ := h
  exact j_X11_idle_69_n C hE t_v0 hk50 n v7 v8 v9 v10 S h
set_option maxHeartbeats 4000000 in
set_option maxRecDepth 100000 in
theorem j_X11_idle_50_n {p : Program} {l : Launch} {e : Env} {s : State} {m : MethodId} {args : Array Value} {below : List Frame} {meth : Method} {c : Code} {b : Nat} {D : va_G} {cy : Nat → ClassId} {G : Gm} {v0 : Nat} {v1 : Int32} {v2 : Int32} {v3 : Int32} {Q : Int32 → St → Prop} (C : CX p s m args meth c b D cy cX11_idle RX11 11 (some .int)) (hE : s.heap.size + 0 ≤ b + G.2.2) (t_v0 : ok G 10 v0) : ∀ n (v4 : Int32) (v5 : Int32) (v6 : Int32) S, f_X11_idle_50_n G v0 v1 v2 v3 Q n v4 v5 v6 S → J p l e rm_X11_idle s m args below meth c b D cy 11 (zI b D cy below args s G Q) 0 0 G S 50 [(0, .ref (b + v0)), (1, .int v1), (2, .int v2), (3, .int v3), (4, .int v4), (5, .int v5), (6, .int v6)] [] := by
  intro n
  induction n with
  | zero => intro v4 v5 v6 S h; exact h.elim
  | succ n ih =>
    intro v4 v5 v6 S h
    unfold f_X11_idle_50_n at h
    refine jB C [(.iload 6, 2, 0), (.iload_n 3, 1, 0)] 53 [(0, .ref (b + v0)), (1, .int v1), (2, .int v2), (3, .int v3), (4, .int v4), (5, .int v5), (6, .int v6)] [.int v3, .int v6] (by decide +kernel) rfl rfl ?_
    refine jIcmp_ge C 56 144 (by decide +kernel : decode cX11_idle 53 = .ok (.if_icmp .ge 91, 3)) rfl rfl (fun c1 => ?_) (fun c1 => ?_)
    · have h := it1 h c1
      refine jB C [(.iload_n 2, 1, 0), (.iconst (-1), 1, (-1))] 146 [(0, .ref (b + v0)), (1, .int v1), (2, .int v2), (3, .int v3), (4, .int v4), (5, .int v5), (6, .int v6)] [.int (-1), .int v2] (by decide +kernel) rfl rfl ?_
      refine jIcmp_ne C 149 154 (by decide +kernel : decode cX11_idle 146 = .ok (.if_icmp .ne 8, 3)) rfl rfl (fun c2 => ?_) (fun c2 => ?_)
      · have h := it2 h c2
        refine jB C [(.iload 5, 2, 0)] 156 [(0, .ref (b + v0)), (1, .int v1), (2, .int v2), (3, .int v3), (4, .int v4), (5, .int v5), (6, .int v6)] [.int v5] (by decide +kernel) rfl rfl ?_
        exact jRetI C (by decide +kernel : decode cX11_idle 156 = .ok (.ireturn, 1)) (Nat.le_refl _) (Nat.le_refl _) ⟨rfl, h⟩
      · have h := it1 h c2
        refine jB C [(.iload 4, 2, 0)] 151 [(0, .ref (b + v0)), (1, .int v1), (2, .int v2), (3, .int v3), (4, .int v4), (5, .int v5), (6, .int v6)] [.int v4] (by decide +kernel) rfl rfl ?_
        refine jGoto C 156 (by decide +kernel : decode cX11_idle 151 = .ok (.goto 5, 3)) rfl ?_
        exact jRetI C (by decide +kernel : decode cX11_idle 156 = .ok (.ireturn, 1)) (Nat.le_refl _) (Nat.le_refl _) ⟨rfl, h⟩
    · have h := it2 h c1
      refine jB C [(.iconst 0, 1, 0), (.istore 7, 2, 0), (.iconst 1, 1, 1), (.istore 8, 2, 0), (.iload 6, 2, 0), (.istore 9, 2, 0), (.iconst 0, 1, 0), (.istore 10, 2, 0)] 69 [(10, .int 0), (9, .int v6), (8, .int 1), (7, .int 0), (0, .ref (b + v0)), (1, .int v1), (2, .int v2), (3, .int v3), (4, .int v4), (5, .int v5), (6, .int v6)] [] (by decide +kernel) rfl rfl ?_
      refine jSub [4, 5, 6, 7, 8, 9, 10, 3, 2, 1, 0] rfl ?_
      exact j_X11_idle_69 C hE t_v0 ih h
theorem j_X11_idle_50 {p : Program} {l : Launch} {e : Env} {s : State} {m : MethodId} {args : Array Value} {below : List Frame} {meth : Method} {c : Code} {b : Nat} {D : va_G} {cy : Nat → ClassId} {G : Gm} {v0 : Nat} {v1 : Int32} {v2 : Int32} {v3 : Int32} {v4 : Int32} {v5 : Int32} {v6 : Int32} {S : St} {Q : Int32 → St → Prop} (C : CX p s m args meth c b D cy cX11_idle RX11 11 (some .int)) (hE : s.heap.size + 0 ≤ b + G.2.2) (t_v0 : ok G 10 v0) (h : f_X11_idle_50 G v0 v1 v2 v3 Q v4 v5 v6 S) : J p l e rm_X11_idle s m args below meth c b D cy 11 (zI b D cy below args s G Q) 0 0 G S 50 [(0, .ref (b + v0)), (1, .int v1), (2, .int v2), (3, .int v3), (4, .int v4), (5, .int v5), (6, .int v6)] [] := by
  obtain ⟨n, h⟩ := h
  exact j_X11_idle_50_n C hE t_v0 n v4 v5 v6 S h
set_option maxHeartbeats 4000000 in
set_option maxRecDepth 100000 in
theorem j_X11_idle_24_n {p : Program} {l : Launch} {e : Env} {s : State} {m : MethodId} {args : Array Value} {below : List Frame} {meth : Method} {c : Code} {b : Nat} {D : va_G} {cy : Nat → ClassId} {G : Gm} {v0 : Nat} {v1 : Int32} {v2 : Int32} {Q : Int32 → St → Prop} (C : CX p s m args meth c b D cy cX11_idle RX11 11 (some .int)) (hE : s.heap.size + 0 ≤ b + G.2.2) (t_v0 : ok G 10 v0) : ∀ n (v3 : Int32) (v4 : Int32) S, f_X11_idle_24_n G v0 v1 v2 Q n v3 v4 S → J p l e rm_X11_idle s m args below meth c b D cy 11 (zI b D cy below args s G Q) 0 0 G S 24 [(0, .ref (b + v0)), (1, .int v1), (2, .int v2), (3, .int v3), (4, .int v4)] [] := by
  intro n
  induction n with
  | zero => intro v3 v4 S h; exact h.elim
  | succ n ih =>
    intro v3 v4 S h
    unfold f_X11_idle_24_n at h
    refine jB C [(.iload 4, 2, 0), (.iload_n 1, 1, 0)] 27 [(0, .ref (b + v0)), (1, .int v1), (2, .int v2), (3, .int v3), (4, .int v4)] [.int v1, .int v4] (by decide +kernel) rfl rfl ?_
    refine jIcmp_ge C 30 41 (by decide +kernel : decode cX11_idle 27 = .ok (.if_icmp .ge 14, 3)) rfl rfl (fun c1 => ?_) (fun c1 => ?_)
    · have h := it1 h c1
      refine jB C [(.iconst 0, 1, 0), (.istore 4, 2, 0), (.iconst (-1), 1, (-1)), (.istore 5, 2, 0), (.iconst 0, 1, 0), (.istore 6, 2, 0)] 50 [(6, .int 0), (5, .int (-1)), (4, .int 0), (0, .ref (b + v0)), (1, .int v1), (2, .int v2), (3, .int v3)] [] (by decide +kernel) rfl rfl ?_
      refine jSub [3, 4, 5, 6, 2, 1, 0] rfl ?_
      exact j_X11_idle_50 C hE t_v0 h
    · have h := it2 h c1
      refine jB C [(.iload_n 3, 1, 0), (.bipush 7, 2, 7), (.imul, 1, 0)] 34 [(0, .ref (b + v0)), (1, .int v1), (2, .int v2), (3, .int v3), (4, .int v4)] [.int (v3 * 7)] (by decide +kernel) rfl rfl ?_
      refine jTopI (fun x2 e_x2 => ?_)
      have h := h x2 e_x2
      refine jB C [(.istore_n 3, 1, 0), (.iinc 4 1, 3, 1)] 38 [(4, .int (v4 + 1)), (3, .int x2), (0, .ref (b + v0)), (1, .int v1), (2, .int v2)] [] (by decide +kernel) rfl rfl ?_
      refine jGoto C 24 (by decide +kernel : decode cX11_idle 38 = .ok (.goto (-14), 3)) rfl ?_
      refine jSub [2, 3, 4, 1, 0] rfl ?_
      exact ih x2 (v4 + 1) S h
theorem j_X11_idle_24 {p : Program} {l : Launch} {e : Env} {s : State} {m : MethodId} {args : Array Value} {below : List Frame} {meth : Method} {c : Code} {b : Nat} {D : va_G} {cy : Nat → ClassId} {G : Gm} {v0 : Nat} {v1 : Int32} {v2 : Int32} {v3 : Int32} {v4 : Int32} {S : St} {Q : Int32 → St → Prop} (C : CX p s m args meth c b D cy cX11_idle RX11 11 (some .int)) (hE : s.heap.size + 0 ≤ b + G.2.2) (t_v0 : ok G 10 v0) (h : f_X11_idle_24 G v0 v1 v2 Q v3 v4 S) : J p l e rm_X11_idle s m args below meth c b D cy 11 (zI b D cy below args s G Q) 0 0 G S 24 [(0, .ref (b + v0)), (1, .int v1), (2, .int v2), (3, .int v3), (4, .int v4)] [] := by
  obtain ⟨n, h⟩ := h
  exact j_X11_idle_24_n C hE t_v0 n v3 v4 S h
set_option maxHeartbeats 4000000 in
set_option maxRecDepth 100000 in
theorem j_X11_idle {p : Program} {l : Launch} {e : Env} {s : State} {m : MethodId} {args : Array Value} {below : List Frame} {meth : Method} {c : Code} {b : Nat} {D : va_G} {cy : Nat → ClassId} {G : Gm} {v0 : Nat} {v1 : Int32} {v2 : Int32} {S : St} {Q : Int32 → St → Prop} (C : CX p s m args meth c b D cy cX11_idle RX11 11 (some .int)) (hE : s.heap.size + 0 ≤ b + G.2.2) (t_v0 : ok G 10 v0) (h : f_X11_idle G v0 v1 v2 Q S) : J p l e rm_X11_idle s m args below meth c b D cy 11 (zI b D cy below args s G Q) 0 0 G S 0 [(0, .ref (b + v0)), (1, .int v1), (2, .int v2)] [] := by
  unfold f_X11_idle at h
  refine jB C [(.aload_n 0, 1, 0), (.iconst 0, 1, 0)] 2 [(0, .ref (b + v0)), (1, .int v1), (2, .int v2)] [.int 0, .ref (b + v0)] (by decide +kernel) rfl rfl ?_
  refine jPutI C 5 (by decide +kernel : decode cX11_idle 2 = .ok (.putfield 165, 3)) rfl hE t_v0 kX11 0 (by decide) rfl rfl (by decide) rfl wd_1154 rfl rfl rfl ?_
  refine jTopS (fun S1 e_S1 => ?_)
  have h := h S1 e_S1
  refine jB C [(.iload_n 1, 1, 0), (.i2l, 1, 0), (.lconst 1, 1, 0)] 8 [(0, .ref (b + v0)), (1, .int v1), (2, .int v2)] [.long 1, .long v1.toInt64] (by decide +kernel) rfl rfl ?_
  refine jLdc2 C 11 (by decide +kernel : decode cX11_idle 8 = .ok (.ldc2_w 517, 3)) rfl wd_1768 ?_
  refine jcS_I C 14 (rest := []) (ok_X11_in h) (by decide +kernel : decode cX11_idle 11 = .ok (.invokestatic 185, 3)) rfl wd_1352 wd_1353 wd_12 wd_1354 ⟨rfl, rfl⟩ hd_X11_in ⟨Nat.le_of_ble_eq_true rfl, Nat.le_of_ble_eq_true rfl⟩ rfl rfl (Nat.le_of_ble_eq_true rfl) ⟨Nat.zero_le _, Nat.zero_le _⟩ (fun r3 S2 h => ?_)
  refine jIf_ne C 17 19 (by decide +kernel : decode cX11_idle 14 = .ok (.ifCond .ne 5, 3)) rfl rfl (fun c4 => ?_) (fun c4 => ?_)
  · have h := it2 h c4
    refine jB C [(.iconst 1, 1, 1), (.istore_n 3, 1, 0), (.iconst 0, 1, 0), (.istore 4, 2, 0)] 24 [(4, .int 0), (3, .int 1), (0, .ref (b + v0)), (1, .int v1), (2, .int v2)] [] (by decide +kernel) rfl rfl ?_
    refine jSub [2, 3, 4, 1, 0] rfl ?_
    exact j_X11_idle_24 C hE t_v0 h
  · have h := it1 h c4
    refine jB C [(.iconst (-1), 1, (-1))] 18 [(0, .ref (b + v0)), (1, .int v1), (2, .int v2)] [.int (-1)] (by decide +kernel) rfl rfl ?_
    exact jRetI C (by decide +kernel : decode cX11_idle 18 = .ok (.ireturn, 1)) (Nat.le_refl _) (Nat.le_refl _) ⟨rfl, h⟩
theorem ok_X11_idle {G : Gm} {v0 : Nat} {v1 : Int32} {v2 : Int32} {S : St} {Q : Int32 → St → Prop} (t_v0 : ok G 10 v0) (h : f_X11_idle G v0 v1 v2 Q S) : MT yX11_idle cX11_idle 11 (some .int) rm_X11_idle 0 0 (fun b => [.ref (b + v0), .int v1, .int v2]) G S (QI (fun r G1 S1 => G1 = G ∧ Q r S1)) := MT.ofJ (by decide) (fun b => [(0, .ref (b + v0)), (1, .int v1), (2, .int v2)]) (fun b => rfl) (fun b => Nat.le_of_ble_eq_true rfl) (fun l b D cy p e s m below meth c C hE hn => j_X11_idle C hE t_v0 h)
theorem hd_X11_idle : yX11_idle.cls ≠ "java/lang/invoke/MethodHandle" ∧ yX11_idle.cls ≠ "java/lang/invoke/VarHandle" ∧ (parseMethodDescriptor yX11_idle.desc).map (fun d => d.parameters.length) = some 2 := by decide +kernel
