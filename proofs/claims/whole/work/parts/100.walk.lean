def f_J6_bitCount_0f7a4 (G : Gm) (v0 : Int32) (Q : Int32 → St → Prop) (S : St) : Prop :=
  (∀ x1 : Int32, x1 = v0 - (((v0.toUInt32 >>> (1.toUInt32 &&& Int32.toUInt32 31)).toInt32) &&& 1431655765) → (∀ x2 : Int32, x2 = (x1 &&& 858993459) + (((x1.toUInt32 >>> (2.toUInt32 &&& Int32.toUInt32 31)).toInt32) &&& 858993459) → (∀ x3 : Int32, x3 = (x2 + ((x2.toUInt32 >>> (4.toUInt32 &&& Int32.toUInt32 31)).toInt32)) &&& 252645135 → (∀ x4 : Int32, x4 = x3 + ((x3.toUInt32 >>> (8.toUInt32 &&& Int32.toUInt32 31)).toInt32) → (∀ x5 : Int32, x5 = x4 + ((x4.toUInt32 >>> (16.toUInt32 &&& Int32.toUInt32 31)).toInt32) → Q (x5 &&& 63) S)))))
abbrev rm_J6_bitCount_0f7a4 : Room := { frames := 0, cells := 0, slots := 0, locals := 0 }
set_option maxHeartbeats 4000000 in
set_option maxRecDepth 100000 in
theorem j_J6_bitCount_0f7a4 {p : Program} {l : Launch} {e : Env} {s : State} {m : MethodId} {args : Array Value} {below : List Frame} {meth : Method} {c : Code} {b : Nat} {D : va_G} {cy : Nat → ClassId} {G : Gm} {v0 : Int32} {S : St} {Q : Int32 → St → Prop} (C : CX p s m args meth c b D cy cJ6_bitCount_0f7a4 RJ6 1 (some .int)) (hE : s.heap.size + 0 ≤ b + G.2.2) (h : f_J6_bitCount_0f7a4 G v0 Q S) : J p l e rm_J6_bitCount_0f7a4 s m args below meth c b D cy 1 (zI b D cy below args s G Q) 0 0 G S 0 [(0, .int v0)] [] := by
  unfold f_J6_bitCount_0f7a4 at h
  refine jB C [(.iload_n 0, 1, 0), (.iload_n 0, 1, 0), (.iconst 1, 1, 1), (.iushr, 1, 0)] 4 [(0, .int v0)] [.int ((v0.toUInt32 >>> (1.toUInt32 &&& Int32.toUInt32 31)).toInt32), .int v0] (by decide +kernel) rfl rfl ?_
  refine jLdcw C 7 (by decide +kernel : decode cJ6_bitCount_0f7a4 4 = .ok (.ldc_w 265, 3)) rfl wd_1009 ?_
  refine jB C [(.iand, 1, 0), (.isub, 1, 0)] 9 [(0, .int v0)] [.int (v0 - (((v0.toUInt32 >>> (1.toUInt32 &&& Int32.toUInt32 31)).toInt32) &&& 1431655765))] (by decide +kernel) rfl rfl ?_
  refine jTopI (fun x1 e_x1 => ?_)
  have h := h x1 e_x1
  refine jB C [(.istore_n 0, 1, 0), (.iload_n 0, 1, 0)] 11 [(0, .int x1)] [.int x1] (by decide +kernel) rfl rfl ?_
  refine jLdcw C 14 (by decide +kernel : decode cJ6_bitCount_0f7a4 11 = .ok (.ldc_w 266, 3)) rfl wd_1010 ?_
  refine jB C [(.iand, 1, 0), (.iload_n 0, 1, 0), (.iconst 2, 1, 2), (.iushr, 1, 0)] 18 [(0, .int x1)] [.int ((x1.toUInt32 >>> (2.toUInt32 &&& Int32.toUInt32 31)).toInt32), .int (x1 &&& 858993459)] (by decide +kernel) rfl rfl ?_
  refine jLdcw C 21 (by decide +kernel : decode cJ6_bitCount_0f7a4 18 = .ok (.ldc_w 266, 3)) rfl wd_1010 ?_
  refine jB C [(.iand, 1, 0), (.iadd, 1, 0)] 23 [(0, .int x1)] [.int ((x1 &&& 858993459) + (((x1.toUInt32 >>> (2.toUInt32 &&& Int32.toUInt32 31)).toInt32) &&& 858993459))] (by decide +kernel) rfl rfl ?_
  refine jTopI (fun x2 e_x2 => ?_)
  have h := h x2 e_x2
  refine jB C [(.istore_n 0, 1, 0), (.iload_n 0, 1, 0), (.iload_n 0, 1, 0), (.iconst 4, 1, 4), (.iushr, 1, 0), (.iadd, 1, 0)] 29 [(0, .int x2)] [.int (x2 + ((x2.toUInt32 >>> (4.toUInt32 &&& Int32.toUInt32 31)).toInt32))] (by decide +kernel) rfl rfl ?_
  refine jLdcw C 32 (by decide +kernel : decode cJ6_bitCount_0f7a4 29 = .ok (.ldc_w 267, 3)) rfl wd_1011 ?_
  refine jB C [(.iand, 1, 0)] 33 [(0, .int x2)] [.int ((x2 + ((x2.toUInt32 >>> (4.toUInt32 &&& Int32.toUInt32 31)).toInt32)) &&& 252645135)] (by decide +kernel) rfl rfl ?_
  refine jTopI (fun x3 e_x3 => ?_)
  have h := h x3 e_x3
  refine jB C [(.istore_n 0, 1, 0), (.iload_n 0, 1, 0), (.iload_n 0, 1, 0), (.bipush 8, 2, 8), (.iushr, 1, 0), (.iadd, 1, 0)] 40 [(0, .int x3)] [.int (x3 + ((x3.toUInt32 >>> (8.toUInt32 &&& Int32.toUInt32 31)).toInt32))] (by decide +kernel) rfl rfl ?_
  refine jTopI (fun x4 e_x4 => ?_)
  have h := h x4 e_x4
  refine jB C [(.istore_n 0, 1, 0), (.iload_n 0, 1, 0), (.iload_n 0, 1, 0), (.bipush 16, 2, 16), (.iushr, 1, 0), (.iadd, 1, 0)] 47 [(0, .int x4)] [.int (x4 + ((x4.toUInt32 >>> (16.toUInt32 &&& Int32.toUInt32 31)).toInt32))] (by decide +kernel) rfl rfl ?_
  refine jTopI (fun x5 e_x5 => ?_)
  have h := h x5 e_x5
  refine jB C [(.istore_n 0, 1, 0), (.iload_n 0, 1, 0), (.bipush 63, 2, 63), (.iand, 1, 0)] 52 [(0, .int x5)] [.int (x5 &&& 63)] (by decide +kernel) rfl rfl ?_
  exact jRetI C (by decide +kernel : decode cJ6_bitCount_0f7a4 52 = .ok (.ireturn, 1)) (Nat.le_refl _) (Nat.le_refl _) ⟨rfl, h⟩
theorem ok_J6_bitCount_0f7a4 {G : Gm} {v0 : Int32} {S : St} {Q : Int32 → St → Prop} (h : f_J6_bitCount_0f7a4 G v0 Q S) : MT yJ6_bitCount_0f7a4 cJ6_bitCount_0f7a4 1 (some .int) rm_J6_bitCount_0f7a4 0 0 (fun b => [.int v0]) G S (QI (fun r G1 S1 => G1 = G ∧ Q r S1)) := MT.ofJ (by decide) (fun b => [(0, .int v0)]) (fun b => rfl) (fun b => Nat.le_of_ble_eq_true rfl) (fun l b D cy p e s m below meth c C hE hn => j_J6_bitCount_0f7a4 C hE h)
theorem hd_J6_bitCount_0f7a4 : yJ6_bitCount_0f7a4.cls ≠ "java/lang/invoke/MethodHandle" ∧ yJ6_bitCount_0f7a4.cls ≠ "java/lang/invoke/VarHandle" ∧ (parseMethodDescriptor yJ6_bitCount_0f7a4.desc).map (fun d => d.parameters.length) = some 1 := by decide +kernel
def f_J9_floorMod_7cf53 (G : Gm) (v0 : Int32) (v1 : Int32) (Q : Int32 → St → Prop) (S : St) : Prop :=
  (¬ v1 = 0 ∧ (∀ x1 : Int32, x1 = v0 - v0 / v1 * v1 → (if 0 ≤ (v0 ^^^ v1) then Q x1 S else (if x1 = 0 then Q x1 S else Q (x1 + v1) S))))
abbrev rm_J9_floorMod_7cf53 : Room := { frames := 0, cells := 0, slots := 0, locals := 0 }
set_option maxHeartbeats 4000000 in
set_option maxRecDepth 100000 in
theorem j_J9_floorMod_7cf53 {p : Program} {l : Launch} {e : Env} {s : State} {m : MethodId} {args : Array Value} {below : List Frame} {meth : Method} {c : Code} {b : Nat} {D : va_G} {cy : Nat → ClassId} {G : Gm} {v0 : Int32} {v1 : Int32} {S : St} {Q : Int32 → St → Prop} (C : CX p s m args meth c b D cy cJ9_floorMod_7cf53 RJ9 3 (some .int)) (hE : s.heap.size + 0 ≤ b + G.2.2) (h : f_J9_floorMod_7cf53 G v0 v1 Q S) : J p l e rm_J9_floorMod_7cf53 s m args below meth c b D cy 3 (zI b D cy below args s G Q) 0 0 G S 0 [(0, .int v0), (1, .int v1)] [] := by
  unfold f_J9_floorMod_7cf53 at h
  refine jB C [(.iload_n 0, 1, 0), (.iload_n 1, 1, 0)] 2 [(0, .int v0), (1, .int v1)] [.int v1, .int v0] (by decide +kernel) rfl rfl ?_
  obtain ⟨y4, h⟩ := h
  refine jIrem C 3 (by decide +kernel : decode cJ9_floorMod_7cf53 2 = .ok (.irem, 1)) rfl y4 ?_
  refine jTopI (fun x1 e_x1 => ?_)
  have h := h x1 e_x1
  refine jB C [(.istore_n 2, 1, 0), (.iload_n 0, 1, 0), (.iload_n 1, 1, 0), (.ixor, 1, 0)] 7 [(2, .int x1), (0, .int v0), (1, .int v1)] [.int (v0 ^^^ v1)] (by decide +kernel) rfl rfl ?_
  refine jIf_ge C 10 18 (by decide +kernel : decode cJ9_floorMod_7cf53 7 = .ok (.ifCond .ge 11, 3)) rfl rfl (fun c2 => ?_) (fun c2 => ?_)
  · have h := it1 h c2
    refine jB C [(.iload_n 2, 1, 0)] 19 [(2, .int x1), (0, .int v0), (1, .int v1)] [.int x1] (by decide +kernel) rfl rfl ?_
    exact jRetI C (by decide +kernel : decode cJ9_floorMod_7cf53 19 = .ok (.ireturn, 1)) (Nat.le_refl _) (Nat.le_refl _) ⟨rfl, h⟩
  · have h := it2 h c2
    refine jB C [(.iload_n 2, 1, 0)] 11 [(2, .int x1), (0, .int v0), (1, .int v1)] [.int x1] (by decide +kernel) rfl rfl ?_
    refine jIf_eq C 14 18 (by decide +kernel : decode cJ9_floorMod_7cf53 11 = .ok (.ifCond .eq 7, 3)) rfl rfl (fun c3 => ?_) (fun c3 => ?_)
    · have h := it1 h c3
      refine jB C [(.iload_n 2, 1, 0)] 19 [(2, .int x1), (0, .int v0), (1, .int v1)] [.int x1] (by decide +kernel) rfl rfl ?_
      exact jRetI C (by decide +kernel : decode cJ9_floorMod_7cf53 19 = .ok (.ireturn, 1)) (Nat.le_refl _) (Nat.le_refl _) ⟨rfl, h⟩
    · have h := it2 h c3
      refine jB C [(.iload_n 2, 1, 0), (.iload_n 1, 1, 0), (.iadd, 1, 0)] 17 [(2, .int x1), (0, .int v0), (1, .int v1)] [.int (x1 + v1)] (by decide +kernel) rfl rfl ?_
      exact jRetI C (by decide +kernel : decode cJ9_floorMod_7cf53 17 = .ok (.ireturn, 1)) (Nat.le_refl _) (Nat.le_refl _) ⟨rfl, h⟩
theorem ok_J9_floorMod_7cf53 {G : Gm} {v0 : Int32} {v1 : Int32} {S : St} {Q : Int32 → St → Prop} (h : f_J9_floorMod_7cf53 G v0 v1 Q S) : MT yJ9_floorMod_7cf53 cJ9_floorMod_7cf53 3 (some .int) rm_J9_floorMod_7cf53 0 0 (fun b => [.int v0, .int v1]) G S (QI (fun r G1 S1 => G1 = G ∧ Q r S1)) := MT.ofJ (by decide) (fun b => [(0, .int v0), (1, .int v1)]) (fun b => rfl) (fun b => Nat.le_of_ble_eq_true rfl) (fun l b D cy p e s m below meth c C hE hn => j_J9_floorMod_7cf53 C hE h)
theorem hd_J9_floorMod_7cf53 : yJ9_floorMod_7cf53.cls ≠ "java/lang/invoke/MethodHandle" ∧ yJ9_floorMod_7cf53.cls ≠ "java/lang/invoke/VarHandle" ∧ (parseMethodDescriptor yJ9_floorMod_7cf53.desc).map (fun d => d.parameters.length) = some 2 := by decide +kernel
def f_J9_max_7cf53 (G : Gm) (v0 : Int32) (v1 : Int32) (Q : Int32 → St → Prop) (S : St) : Prop :=
  (if v0 < v1 then Q v1 S else Q v0 S)
abbrev rm_J9_max_7cf53 : Room := { frames := 0, cells := 0, slots := 0, locals := 0 }
set_option maxHeartbeats 4000000 in
set_option maxRecDepth 100000 in
theorem j_J9_max_7cf53 {p : Program} {l : Launch} {e : Env} {s : State} {m : MethodId} {args : Array Value} {below : List Frame} {meth : Method} {c : Code} {b : Nat} {D : va_G} {cy : Nat → ClassId} {G : Gm} {v0 : Int32} {v1 : Int32} {S : St} {Q : Int32 → St → Prop} (C : CX p s m args meth c b D cy cJ9_max_7cf53 RJ9 2 (some .int)) (hE : s.heap.size + 0 ≤ b + G.2.2) (h : f_J9_max_7cf53 G v0 v1 Q S) : J p l e rm_J9_max_7cf53 s m args below meth c b D cy 2 (zI b D cy below args s G Q) 0 0 G S 0 [(0, .int v0), (1, .int v1)] [] := by
  unfold f_J9_max_7cf53 at h
  refine jB C [(.iload_n 0, 1, 0), (.iload_n 1, 1, 0)] 2 [(0, .int v0), (1, .int v1)] [.int v1, .int v0] (by decide +kernel) rfl rfl ?_
  refine jIcmp_lt C 5 9 (by decide +kernel : decode cJ9_max_7cf53 2 = .ok (.if_icmp .lt 7, 3)) rfl rfl (fun c1 => ?_) (fun c1 => ?_)
  · have h := it1 h c1
    refine jB C [(.iload_n 1, 1, 0)] 10 [(0, .int v0), (1, .int v1)] [.int v1] (by decide +kernel) rfl rfl ?_
    exact jRetI C (by decide +kernel : decode cJ9_max_7cf53 10 = .ok (.ireturn, 1)) (Nat.le_refl _) (Nat.le_refl _) ⟨rfl, h⟩
  · have h := it2 h c1
    refine jB C [(.iload_n 0, 1, 0)] 6 [(0, .int v0), (1, .int v1)] [.int v0] (by decide +kernel) rfl rfl ?_
    refine jGoto C 10 (by decide +kernel : decode cJ9_max_7cf53 6 = .ok (.goto 4, 3)) rfl ?_
    exact jRetI C (by decide +kernel : decode cJ9_max_7cf53 10 = .ok (.ireturn, 1)) (Nat.le_refl _) (Nat.le_refl _) ⟨rfl, h⟩
theorem ok_J9_max_7cf53 {G : Gm} {v0 : Int32} {v1 : Int32} {S : St} {Q : Int32 → St → Prop} (h : f_J9_max_7cf53 G v0 v1 Q S) : MT yJ9_max_7cf53 cJ9_max_7cf53 2 (some .int) rm_J9_max_7cf53 0 0 (fun b => [.int v0, .int v1]) G S (QI (fun r G1 S1 => G1 = G ∧ Q r S1)) := MT.ofJ (by decide) (fun b => [(0, .int v0), (1, .int v1)]) (fun b => rfl) (fun b => Nat.le_of_ble_eq_true rfl) (fun l b D cy p e s m below meth c C hE hn => j_J9_max_7cf53 C hE h)
theorem hd_J9_max_7cf53 : yJ9_max_7cf53.cls ≠ "java/lang/invoke/MethodHandle" ∧ yJ9_max_7cf53.cls ≠ "java/lang/invoke/VarHandle" ∧ (parseMethodDescriptor yJ9_max_7cf53.desc).map (fun d => d.parameters.length) = some 2 := by decide +kernel
def f_J9_min_7cf53 (G : Gm) (v0 : Int32) (v1 : Int32) (Q : Int32 → St → Prop) (S : St) : Prop :=
  (if v1 < v0 then Q v1 S else Q v0 S)
abbrev rm_J9_min_7cf53 : Room := { frames := 0, cells := 0, slots := 0, locals := 0 }
set_option maxHeartbeats 4000000 in
set_option maxRecDepth 100000 in
theorem j_J9_min_7cf53 {p : Program} {l : Launch} {e : Env} {s : State} {m : MethodId} {args : Array Value} {below : List Frame} {meth : Method} {c : Code} {b : Nat} {D : va_G} {cy : Nat → ClassId} {G : Gm} {v0 : Int32} {v1 : Int32} {S : St} {Q : Int32 → St → Prop} (C : CX p s m args meth c b D cy cJ9_min_7cf53 RJ9 2 (some .int)) (hE : s.heap.size + 0 ≤ b + G.2.2) (h : f_J9_min_7cf53 G v0 v1 Q S) : J p l e rm_J9_min_7cf53 s m args below meth c b D cy 2 (zI b D cy below args s G Q) 0 0 G S 0 [(0, .int v0), (1, .int v1)] [] := by
  unfold f_J9_min_7cf53 at h
  refine jB C [(.iload_n 0, 1, 0), (.iload_n 1, 1, 0)] 2 [(0, .int v0), (1, .int v1)] [.int v1, .int v0] (by decide +kernel) rfl rfl ?_
  refine jIcmp_gt C 5 9 (by decide +kernel : decode cJ9_min_7cf53 2 = .ok (.if_icmp .gt 7, 3)) rfl rfl (fun c1 => ?_) (fun c1 => ?_)
  · have h := it1 h c1
    refine jB C [(.iload_n 1, 1, 0)] 10 [(0, .int v0), (1, .int v1)] [.int v1] (by decide +kernel) rfl rfl ?_
    exact jRetI C (by decide +kernel : decode cJ9_min_7cf53 10 = .ok (.ireturn, 1)) (Nat.le_refl _) (Nat.le_refl _) ⟨rfl, h⟩
  · have h := it2 h c1
    refine jB C [(.iload_n 0, 1, 0)] 6 [(0, .int v0), (1, .int v1)] [.int v0] (by decide +kernel) rfl rfl ?_
    refine jGoto C 10 (by decide +kernel : decode cJ9_min_7cf53 6 = .ok (.goto 4, 3)) rfl ?_
    exact jRetI C (by decide +kernel : decode cJ9_min_7cf53 10 = .ok (.ireturn, 1)) (Nat.le_refl _) (Nat.le_refl _) ⟨rfl, h⟩
theorem ok_J9_min_7cf53 {G : Gm} {v0 : Int32} {v1 : Int32} {S : St} {Q : Int32 → St → Prop} (h : f_J9_min_7cf53 G v0 v1 Q S) : MT yJ9_min_7cf53 cJ9_min_7cf53 2 (some .int) rm_J9_min_7cf53 0 0 (fun b => [.int v0, .int v1]) G S (QI (fun r G1 S1 => G1 = G ∧ Q r S1)) := MT.ofJ (by decide) (fun b => [(0, .int v0), (1, .int v1)]) (fun b => rfl) (fun b => Nat.le_of_ble_eq_true rfl) (fun l b D cy p e s m below meth c C hE hn => j_J9_min_7cf53 C hE h)
theorem hd_J9_min_7cf53 : yJ9_min_7cf53.cls ≠ "java/lang/invoke/MethodHandle" ∧ yJ9_min_7cf53.cls ≠ "java/lang/invoke/VarHandle" ∧ (parseMethodDescriptor yJ9_min_7cf53.desc).map (fun d => d.parameters.length) = some 2 := by decide +kernel
def f_X5_copyFrom_115_n (G : Gm) (v0 : Nat) (v1 : Nat) (Q : St → Prop) : Nat → Int32 → St → Prop
  | 0, _, _ => False
  | n + 1, v2, S => (if 6 ≤ v2 then (∀ S2, S2 = uI S v0 10 (S.1 v1 10) → Q S2) else (∃ a3, S.2.2 v0 9 = some a3 ∧ (∃ a4, S.2.2 v1 9 = some a4 ∧ (vp_in v2 (G.2.1 a4) ∧ ∀ r7, r7 = S.2.2 a4 v2.toNatClampNeg → (vp_in v2 (G.2.1 a3) ∧ ∀ S9, S9 = uR S a3 v2.toNatClampNeg r7 → (f_X5_copyFrom_115_n G v0 v1 Q n) (v2 + 1) S9)))))
def f_X5_copyFrom_115 (G : Gm) (v0 : Nat) (v1 : Nat) (Q : St → Prop) (v2 : Int32) (S : St) : Prop := ∃ n, f_X5_copyFrom_115_n G v0 v1 Q n v2 S
def f_X5_copyFrom (G : Gm) (v0 : Nat) (v1 : Nat) (Q : St → Prop) (S : St) : Prop :=
  (∀ S1, S1 = uI S v0 0 (S.1 v1 0) → (∃ a2, S1.2.2 v1 1 = some a2 ∧ (∃ a3, S1.2.2 v0 1 = some a3 ∧ (cpOk 0 0 24 (G.2.1 a2) (G.2.1 a3) ∧ ∀ S5, S5 = cpI S1 a2 0 a3 0 24 → (∃ a6, S5.2.2 v1 2 = some a6 ∧ (∃ a7, S5.2.2 v0 2 = some a7 ∧ (cpOk 0 0 6 (G.2.1 a6) (G.2.1 a7) ∧ ∀ S9, S9 = cpI S5 a6 0 a7 0 6 → (∃ a10, S9.2.2 v1 3 = some a10 ∧ (∃ a11, S9.2.2 v0 3 = some a11 ∧ (cpOk 0 0 6 (G.2.1 a10) (G.2.1 a11) ∧ ∀ S13, S13 = cpI S9 a10 0 a11 0 6 → (∃ a14, S13.2.2 v1 4 = some a14 ∧ (∃ a15, S13.2.2 v0 4 = some a15 ∧ (cpOk 0 0 4 (G.2.1 a14) (G.2.1 a15) ∧ ∀ S17, S17 = cpI S13 a14 0 a15 0 4 → (∀ S18, S18 = uI S17 v0 5 (S17.1 v1 5) → (∃ a19, S18.2.2 v1 6 = some a19 ∧ (∃ a20, S18.2.2 v0 6 = some a20 ∧ (cpOk 0 0 8 (G.2.1 a19) (G.2.1 a20) ∧ ∀ S22, S22 = cpI S18 a19 0 a20 0 8 → (∃ a23, S22.2.2 v1 7 = some a23 ∧ (∃ a24, S22.2.2 v0 7 = some a24 ∧ (cpOk 0 0 8 (G.2.1 a23) (G.2.1 a24) ∧ ∀ S26, S26 = cpI S22 a23 0 a24 0 8 → (∀ S27, S27 = uI S26 v0 8 (S26.1 v1 8) → f_X5_copyFrom_115 G v0 v1 Q 0 S27)))))))))))))))))))))
abbrev rm_X5_copyFrom : Room := { frames := 1, cells := 0, slots := 0, locals := 60 }
set_option maxHeartbeats 4000000 in
set_option maxRecDepth 100000 in
theorem j_X5_copyFrom_115_n {p : Program} {l : Launch} {e : Env} {s : State} {m : MethodId} {args : Array Value} {below : List Frame} {meth : Method} {c : Code} {b : Nat} {D : va_G} {cy : Nat → ClassId} {G : Gm} {v0 : Nat} {v1 : Nat} {Q : St → Prop} (C : CX p s m args meth c b D cy cX5_copyFrom RX5 3 none) (hE : s.heap.size + 0 ≤ b + G.2.2) (t_v0 : ok G 4 v0) (t_v1 : ok G 4 v1) : ∀ n (v2 : Int32) S, f_X5_copyFrom_115_n G v0 v1 Q n v2 S → J p l e rm_X5_copyFrom s m args below meth c b D cy 3 (zV b D cy below args s G Q) 0 0 G S 115 [(0, .ref (b + v0)), (1, .ref (b + v1)), (2, .int v2)] [] := by
  intro n
  induction n with
  | zero => intro v2 S h; exact h.elim
  | succ n ih =>
    intro v2 S h
    unfold f_X5_copyFrom_115_n at h
    refine jB C [(.iload_n 2, 1, 0), (.bipush 6, 2, 6)] 118 [(0, .ref (b + v0)), (1, .ref (b + v1)), (2, .int v2)] [.int 6, .int v2] (by decide +kernel) rfl rfl ?_
    refine jIcmp_ge C 121 139 (by decide +kernel : decode cX5_copyFrom 118 = .ok (.if_icmp .ge 21, 3)) rfl rfl (fun c1 => ?_) (fun c1 => ?_)
    · have h := it1 h c1
      refine jB C [(.aload_n 0, 1, 0), (.aload_n 1, 1, 0)] 141 [(0, .ref (b + v0)), (1, .ref (b + v1)), (2, .int v2)] [.ref (b + v1), .ref (b + v0)] (by decide +kernel) rfl rfl ?_
      refine jGetI C 144 (by decide +kernel : decode cX5_copyFrom 141 = .ok (.getfield 36, 3)) rfl t_v1 kX5 10 (by decide) rfl rfl (by decide) wd_56 ?_
      refine jPutI C 147 (by decide +kernel : decode cX5_copyFrom 144 = .ok (.putfield 36, 3)) rfl hE t_v0 kX5 10 (by decide) rfl rfl (by decide) rfl wd_56 rfl rfl rfl ?_
      refine jTopS (fun S2 e_S2 => ?_)
      have h := h S2 e_S2
      exact jRetV C (by decide +kernel : decode cX5_copyFrom 147 = .ok (.return_, 1)) (Nat.le_refl _) (Nat.le_refl _) ⟨rfl, h⟩
    · have h := it2 h c1
      refine jB C [(.aload_n 0, 1, 0)] 122 [(0, .ref (b + v0)), (1, .ref (b + v1)), (2, .int v2)] [.ref (b + v0)] (by decide +kernel) rfl rfl ?_
      obtain ⟨a3, e_a3, h⟩ := h
      refine jGetR C 125 (by decide +kernel : decode cX5_copyFrom 122 = .ok (.getfield 32, 3)) rfl t_v0 kX5 9 (by decide) rfl rfl (by decide) wd_55 e_a3 rfl (fun t_a3 => ?_)
      refine jB C [(.iload_n 2, 1, 0), (.aload_n 1, 1, 0)] 127 [(0, .ref (b + v0)), (1, .ref (b + v1)), (2, .int v2)] [.ref (b + v1), .int v2, .ref (b + a3)] (by decide +kernel) rfl rfl ?_
      obtain ⟨a4, e_a4, h⟩ := h
      refine jGetR C 130 (by decide +kernel : decode cX5_copyFrom 127 = .ok (.getfield 32, 3)) rfl t_v1 kX5 9 (by decide) rfl rfl (by decide) wd_55 e_a4 rfl (fun t_a4 => ?_)
      refine jB C [(.iload_n 2, 1, 0)] 131 [(0, .ref (b + v0)), (1, .ref (b + v1)), (2, .int v2)] [.int v2, .ref (b + a4), .int v2, .ref (b + a3)] (by decide +kernel) rfl rfl ?_
      obtain ⟨y5, h⟩ := h
      refine jAald15 C 132 (by decide +kernel : decode cX5_copyFrom 131 = .ok (.aaload, 1)) rfl t_a4 y5 (fun t6 => ?_)
      refine jTopQ (fun r7 e_r7 => ?_)
      rw [← e_r7] at t6
      have h := h r7 e_r7
      obtain ⟨y8, h⟩ := h
      refine jAast15Q C 133 (by decide +kernel : decode cX5_copyFrom 132 = .ok (.aastore, 1)) rfl hE t_a3 y8 t6 ?_
      refine jTopS (fun S9 e_S9 => ?_)
      have h := h S9 e_S9
      refine jB C [(.iinc 2 1, 3, 1)] 136 [(2, .int (v2 + 1)), (0, .ref (b + v0)), (1, .ref (b + v1))] [] (by decide +kernel) rfl rfl ?_
      refine jGoto C 115 (by decide +kernel : decode cX5_copyFrom 136 = .ok (.goto (-21), 3)) rfl ?_
      refine jSub [1, 2, 0] rfl ?_
      exact ih (v2 + 1) S9 h
theorem j_X5_copyFrom_115 {p : Program} {l : Launch} {e : Env} {s : State} {m : MethodId} {args : Array Value} {below : List Frame} {meth : Method} {c : Code} {b : Nat} {D : va_G} {cy : Nat → ClassId} {G : Gm} {v0 : Nat} {v1 : Nat} {v2 : Int32} {S : St} {Q : St → Prop} (C : CX p s m args meth c b D cy cX5_copyFrom RX5 3 none) (hE : s.heap.size + 0 ≤ b + G.2.2) (t_v0 : ok G 4 v0) (t_v1 : ok G 4 v1) (h : f_X5_copyFrom_115 G v0 v1 Q v2 S) : J p l e rm_X5_copyFrom s m args below meth c b D cy 3 (zV b D cy below args s G Q) 0 0 G S 115 [(0, .ref (b + v0)), (1, .ref (b + v1)), (2, .int v2)] [] := by
  obtain ⟨n, h⟩ := h
  exact j_X5_copyFrom_115_n C hE t_v0 t_v1 n v2 S h
set_option maxHeartbeats 4000000 in
set_option maxRecDepth 100000 in
theorem j_X5_copyFrom {p : Program} {l : Launch} {e : Env} {s : State} {m : MethodId} {args : Array Value} {below : List Frame} {meth : Method} {c : Code} {b : Nat} {D : va_G} {cy : Nat → ClassId} {G : Gm} {v0 : Nat} {v1 : Nat} {S : St} {Q : St → Prop} (C : CX p s m args meth c b D cy cX5_copyFrom RX5 3 none) (hE : s.heap.size + 0 ≤ b + G.2.2) (t_v0 : ok G 4 v0) (t_v1 : ok G 4 v1) (h : f_X5_copyFrom G v0 v1 Q S) : J p l e rm_X5_copyFrom s m args below meth c b D cy 3 (zV b D cy below args s G Q) 0 0 G S 0 [(0, .ref (b + v0)), (1, .ref (b + v1))] [] := by
  unfold f_X5_copyFrom at h
  refine jB C [(.aload_n 0, 1, 0), (.aload_n 1, 1, 0)] 2 [(0, .ref (b + v0)), (1, .ref (b + v1))] [.ref (b + v1), .ref (b + v0)] (by decide +kernel) rfl rfl ?_
  refine jGetI C 5 (by decide +kernel : decode cX5_copyFrom 2 = .ok (.getfield 40, 3)) rfl t_v1 kX5 0 (by decide) rfl rfl (by decide) wd_36 ?_
  refine jPutI C 8 (by decide +kernel : decode cX5_copyFrom 5 = .ok (.putfield 40, 3)) rfl hE t_v0 kX5 0 (by decide) rfl rfl (by decide) rfl wd_36 rfl rfl rfl ?_
  refine jTopS (fun S1 e_S1 => ?_)
  have h := h S1 e_S1
  refine jB C [(.aload_n 1, 1, 0)] 9 [(0, .ref (b + v0)), (1, .ref (b + v1))] [.ref (b + v1)] (by decide +kernel) rfl rfl ?_
  obtain ⟨a2, e_a2, h⟩ := h
  refine jGetR C 12 (by decide +kernel : decode cX5_copyFrom 9 = .ok (.getfield 9, 3)) rfl t_v1 kX5 1 (by decide) rfl rfl (by decide) wd_40 e_a2 rfl (fun t_a2 => ?_)
  refine jB C [(.iconst 0, 1, 0), (.aload_n 0, 1, 0)] 14 [(0, .ref (b + v0)), (1, .ref (b + v1))] [.ref (b + v0), .int 0, .ref (b + a2)] (by decide +kernel) rfl rfl ?_
  obtain ⟨a3, e_a3, h⟩ := h
  refine jGetR C 17 (by decide +kernel : decode cX5_copyFrom 14 = .ok (.getfield 9, 3)) rfl t_v0 kX5 1 (by decide) rfl rfl (by decide) wd_40 e_a3 rfl (fun t_a3 => ?_)
  refine jB C [(.iconst 0, 1, 0), (.bipush 24, 2, 24)] 20 [(0, .ref (b + v0)), (1, .ref (b + v1))] [.int 24, .int 0, .ref (b + a3), .int 0, .ref (b + a2)] (by decide +kernel) rfl rfl ?_
  obtain ⟨y4, h⟩ := h
  refine jCopy C 23 (by decide +kernel : decode cX5_copyFrom 20 = .ok (.invokestatic 43, 3)) rfl hE t_a2 t_a3 y4 wd_784 (Nat.le_of_ble_eq_true rfl) (Nat.le_of_ble_eq_true rfl) ?_
  refine jTopS (fun S5 e_S5 => ?_)
  have h := h S5 e_S5
  refine jB C [(.aload_n 1, 1, 0)] 24 [(0, .ref (b + v0)), (1, .ref (b + v1))] [.ref (b + v1)] (by decide +kernel) rfl rfl ?_
  obtain ⟨a6, e_a6, h⟩ := h
  refine jGetR C 27 (by decide +kernel : decode cX5_copyFrom 24 = .ok (.getfield 15, 3)) rfl t_v1 kX5 2 (by decide) rfl rfl (by decide) wd_42 e_a6 rfl (fun t_a6 => ?_)
  refine jB C [(.iconst 0, 1, 0), (.aload_n 0, 1, 0)] 29 [(0, .ref (b + v0)), (1, .ref (b + v1))] [.ref (b + v0), .int 0, .ref (b + a6)] (by decide +kernel) rfl rfl ?_
  obtain ⟨a7, e_a7, h⟩ := h
  refine jGetR C 32 (by decide +kernel : decode cX5_copyFrom 29 = .ok (.getfield 15, 3)) rfl t_v0 kX5 2 (by decide) rfl rfl (by decide) wd_42 e_a7 rfl (fun t_a7 => ?_)
  refine jB C [(.iconst 0, 1, 0), (.bipush 6, 2, 6)] 35 [(0, .ref (b + v0)), (1, .ref (b + v1))] [.int 6, .int 0, .ref (b + a7), .int 0, .ref (b + a6)] (by decide +kernel) rfl rfl ?_
  obtain ⟨y8, h⟩ := h
  refine jCopy C 38 (by decide +kernel : decode cX5_copyFrom 35 = .ok (.invokestatic 43, 3)) rfl hE t_a6 t_a7 y8 wd_784 (Nat.le_of_ble_eq_true rfl) (Nat.le_of_ble_eq_true rfl) ?_
  refine jTopS (fun S9 e_S9 => ?_)
  have h := h S9 e_S9
  refine jB C [(.aload_n 1, 1, 0)] 39 [(0, .ref (b + v0)), (1, .ref (b + v1))] [.ref (b + v1)] (by decide +kernel) rfl rfl ?_
  obtain ⟨a10, e_a10, h⟩ := h
  refine jGetR C 42 (by decide +kernel : decode cX5_copyFrom 39 = .ok (.getfield 18, 3)) rfl t_v1 kX5 3 (by decide) rfl rfl (by decide) wd_44 e_a10 rfl (fun t_a10 => ?_)
  refine jB C [(.iconst 0, 1, 0), (.aload_n 0, 1, 0)] 44 [(0, .ref (b + v0)), (1, .ref (b + v1))] [.ref (b + v0), .int 0, .ref (b + a10)] (by decide +kernel) rfl rfl ?_
  obtain ⟨a11, e_a11, h⟩ := h
  refine jGetR C 47 (by decide +kernel : decode cX5_copyFrom 44 = .ok (.getfield 18, 3)) rfl t_v0 kX5 3 (by decide) rfl rfl (by decide) wd_44 e_a11 rfl (fun t_a11 => ?_)
  refine jB C [(.iconst 0, 1, 0), (.bipush 6, 2, 6)] 50 [(0, .ref (b + v0)), (1, .ref (b + v1))] [.int 6, .int 0, .ref (b + a11), .int 0, .ref (b + a10)] (by decide +kernel) rfl rfl ?_
  obtain ⟨y12, h⟩ := h
  refine jCopy C 53 (by decide +kernel : decode cX5_copyFrom 50 = .ok (.invokestatic 43, 3)) rfl hE t_a10 t_a11 y12 wd_784 (Nat.le_of_ble_eq_true rfl) (Nat.le_of_ble_eq_true rfl) ?_
  refine jTopS (fun S13 e_S13 => ?_)
  have h := h S13 e_S13
  refine jB C [(.aload_n 1, 1, 0)] 54 [(0, .ref (b + v0)), (1, .ref (b + v1))] [.ref (b + v1)] (by decide +kernel) rfl rfl ?_
  obtain ⟨a14, e_a14, h⟩ := h
  refine jGetR C 57 (by decide +kernel : decode cX5_copyFrom 54 = .ok (.getfield 21, 3)) rfl t_v1 kX5 4 (by decide) rfl rfl (by decide) wd_45 e_a14 rfl (fun t_a14 => ?_)
  refine jB C [(.iconst 0, 1, 0), (.aload_n 0, 1, 0)] 59 [(0, .ref (b + v0)), (1, .ref (b + v1))] [.ref (b + v0), .int 0, .ref (b + a14)] (by decide +kernel) rfl rfl ?_
  obtain ⟨a15, e_a15, h⟩ := h
  refine jGetR C 62 (by decide +kernel : decode cX5_copyFrom 59 = .ok (.getfield 21, 3)) rfl t_v0 kX5 4 (by decide) rfl rfl (by decide) wd_45 e_a15 rfl (fun t_a15 => ?_)
  refine jB C [(.iconst 0, 1, 0), (.iconst 4, 1, 4)] 64 [(0, .ref (b + v0)), (1, .ref (b + v1))] [.int 4, .int 0, .ref (b + a15), .int 0, .ref (b + a14)] (by decide +kernel) rfl rfl ?_
  obtain ⟨y16, h⟩ := h
  refine jCopy C 67 (by decide +kernel : decode cX5_copyFrom 64 = .ok (.invokestatic 43, 3)) rfl hE t_a14 t_a15 y16 wd_784 (Nat.le_of_ble_eq_true rfl) (Nat.le_of_ble_eq_true rfl) ?_
  refine jTopS (fun S17 e_S17 => ?_)
  have h := h S17 e_S17
  refine jB C [(.aload_n 0, 1, 0), (.aload_n 1, 1, 0)] 69 [(0, .ref (b + v0)), (1, .ref (b + v1))] [.ref (b + v1), .ref (b + v0)] (by decide +kernel) rfl rfl ?_
  refine jGetI C 72 (by decide +kernel : decode cX5_copyFrom 69 = .ok (.getfield 49, 3)) rfl t_v1 kX5 5 (by decide) rfl rfl (by decide) wd_46 ?_
  refine jPutI C 75 (by decide +kernel : decode cX5_copyFrom 72 = .ok (.putfield 49, 3)) rfl hE t_v0 kX5 5 (by decide) rfl rfl (by decide) rfl wd_46 rfl rfl rfl ?_
  refine jTopS (fun S18 e_S18 => ?_)
  have h := h S18 e_S18
  refine jB C [(.aload_n 1, 1, 0)] 76 [(0, .ref (b + v0)), (1, .ref (b + v1))] [.ref (b + v1)] (by decide +kernel) rfl rfl ?_
  obtain ⟨a19, e_a19, h⟩ := h
  refine jGetR C 79 (by decide +kernel : decode cX5_copyFrom 76 = .ok (.getfield 24, 3)) rfl t_v1 kX5 6 (by decide) rfl rfl (by decide) wd_49 e_a19 rfl (fun t_a19 => ?_)
  refine jB C [(.iconst 0, 1, 0), (.aload_n 0, 1, 0)] 81 [(0, .ref (b + v0)), (1, .ref (b + v1))] [.ref (b + v0), .int 0, .ref (b + a19)] (by decide +kernel) rfl rfl ?_
  obtain ⟨a20, e_a20, h⟩ := h
  refine jGetR C 84 (by decide +kernel : decode cX5_copyFrom 81 = .ok (.getfield 24, 3)) rfl t_v0 kX5 6 (by decide) rfl rfl (by decide) wd_49 e_a20 rfl (fun t_a20 => ?_)
  refine jB C [(.iconst 0, 1, 0), (.bipush 8, 2, 8)] 87 [(0, .ref (b + v0)), (1, .ref (b + v1))] [.int 8, .int 0, .ref (b + a20), .int 0, .ref (b + a19)] (by decide +kernel) rfl rfl ?_
  obtain ⟨y21, h⟩ := h
  refine jCopy C 90 (by decide +kernel : decode cX5_copyFrom 87 = .ok (.invokestatic 43, 3)) rfl hE t_a19 t_a20 y21 wd_784 (Nat.le_of_ble_eq_true rfl) (Nat.le_of_ble_eq_true rfl) ?_
  refine jTopS (fun S22 e_S22 => ?_)
  have h := h S22 e_S22
  refine jB C [(.aload_n 1, 1, 0)] 91 [(0, .ref (b + v0)), (1, .ref (b + v1))] [.ref (b + v1)] (by decide +kernel) rfl rfl ?_
  obtain ⟨a23, e_a23, h⟩ := h
  refine jGetR C 94 (by decide +kernel : decode cX5_copyFrom 91 = .ok (.getfield 27, 3)) rfl t_v1 kX5 7 (by decide) rfl rfl (by decide) wd_51 e_a23 rfl (fun t_a23 => ?_)
  refine jB C [(.iconst 0, 1, 0), (.aload_n 0, 1, 0)] 96 [(0, .ref (b + v0)), (1, .ref (b + v1))] [.ref (b + v0), .int 0, .ref (b + a23)] (by decide +kernel) rfl rfl ?_
  obtain ⟨a24, e_a24, h⟩ := h
  refine jGetR C 99 (by decide +kernel : decode cX5_copyFrom 96 = .ok (.getfield 27, 3)) rfl t_v0 kX5 7 (by decide) rfl rfl (by decide) wd_51 e_a24 rfl (fun t_a24 => ?_)
  refine jB C [(.iconst 0, 1, 0), (.bipush 8, 2, 8)] 102 [(0, .ref (b + v0)), (1, .ref (b + v1))] [.int 8, .int 0, .ref (b + a24), .int 0, .ref (b + a23)] (by decide +kernel) rfl rfl ?_
  obtain ⟨y25, h⟩ := h
  refine jCopy C 105 (by decide +kernel : decode cX5_copyFrom 102 = .ok (.invokestatic 43, 3)) rfl hE t_a23 t_a24 y25 wd_784 (Nat.le_of_ble_eq_true rfl) (Nat.le_of_ble_eq_true rfl) ?_
  refine jTopS (fun S26 e_S26 => ?_)
  have h := h S26 e_S26
  refine jB C [(.aload_n 0, 1, 0), (.aload_n 1, 1, 0)] 107 [(0, .ref (b + v0)), (1, .ref (b + v1))] [.ref (b + v1), .ref (b + v0)] (by decide +kernel) rfl rfl ?_
  refine jGetI C 110 (by decide +kernel : decode cX5_copyFrom 107 = .ok (.getfield 52, 3)) rfl t_v1 kX5 8 (by decide) rfl rfl (by decide) wd_53 ?_
  refine jPutI C 113 (by decide +kernel : decode cX5_copyFrom 110 = .ok (.putfield 52, 3)) rfl hE t_v0 kX5 8 (by decide) rfl rfl (by decide) rfl wd_53 rfl rfl rfl ?_
  refine jTopS (fun S27 e_S27 => ?_)
  have h := h S27 e_S27
  refine jB C [(.iconst 0, 1, 0), (.istore_n 2, 1, 0)] 115 [(2, .int 0), (0, .ref (b + v0)), (1, .ref (b + v1))] [] (by decide +kernel) rfl rfl ?_
  refine jSub [1, 2, 0] rfl ?_
  exact j_X5_copyFrom_115 C hE t_v0 t_v1 h
theorem ok_X5_copyFrom {G : Gm} {v0 : Nat} {v1 : Nat} {S : St} {Q : St → Prop} (t_v0 : ok G 4 v0) (t_v1 : ok G 4 v1) (h : f_X5_copyFrom G v0 v1 Q S) : MT yX5_copyFrom cX5_copyFrom 3 none rm_X5_copyFrom 0 0 (fun b => [.ref (b + v0), .ref (b + v1)]) G S (QV (fun G1 S1 => G1 = G ∧ Q S1)) := MT.ofJ (by decide) (fun b => [(0, .ref (b + v0)), (1, .ref (b + v1))]) (fun b => rfl) (fun b => Nat.le_of_ble_eq_true rfl) (fun l b D cy p e s m below meth c C hE hn => j_X5_copyFrom C hE t_v0 t_v1 h)
theorem hd_X5_copyFrom : yX5_copyFrom.cls ≠ "java/lang/invoke/MethodHandle" ∧ yX5_copyFrom.cls ≠ "java/lang/invoke/VarHandle" ∧ (parseMethodDescriptor yX5_copyFrom.desc).map (fun d => d.parameters.length) = some 1 := by decide +kernel
def f_X9_copyFrom (G : Gm) (v0 : Nat) (v1 : Nat) (Q : St → Prop) (S : St) : Prop :=
  (∃ a1, S.2.2 v1 0 = some a1 ∧ (∃ a2, S.2.2 v0 0 = some a2 ∧ (cpOk 0 0 512 (G.2.1 a1) (G.2.1 a2) ∧ ∀ S4, S4 = cpI S a1 0 a2 0 512 → (∀ S5, S5 = uI S4 v0 1 (S4.1 v1 1) → (∀ S6, S6 = uI S5 v0 2 (S5.1 v1 2) → Q S6)))))
abbrev rm_X9_copyFrom : Room := { frames := 1, cells := 0, slots := 0, locals := 60 }
set_option maxHeartbeats 4000000 in
set_option maxRecDepth 100000 in
theorem j_X9_copyFrom {p : Program} {l : Launch} {e : Env} {s : State} {m : MethodId} {args : Array Value} {below : List Frame} {meth : Method} {c : Code} {b : Nat} {D : va_G} {cy : Nat → ClassId} {G : Gm} {v0 : Nat} {v1 : Nat} {S : St} {Q : St → Prop} (C : CX p s m args meth c b D cy cX9_copyFrom RX9 2 none) (hE : s.heap.size + 0 ≤ b + G.2.2) (t_v0 : ok G 8 v0) (t_v1 : ok G 8 v1) (h : f_X9_copyFrom G v0 v1 Q S) : J p l e rm_X9_copyFrom s m args below meth c b D cy 2 (zV b D cy below args s G Q) 0 0 G S 0 [(0, .ref (b + v0)), (1, .ref (b + v1))] [] := by
  unfold f_X9_copyFrom at h
  refine jB C [(.aload_n 1, 1, 0)] 1 [(0, .ref (b + v0)), (1, .ref (b + v1))] [.ref (b + v1)] (by decide +kernel) rfl rfl ?_
  obtain ⟨a1, e_a1, h⟩ := h
  refine jGetR C 4 (by decide +kernel : decode cX9_copyFrom 1 = .ok (.getfield 11, 3)) rfl t_v1 kX9 0 (by decide) rfl rfl (by decide) wd_89 e_a1 rfl (fun t_a1 => ?_)
  refine jB C [(.iconst 0, 1, 0), (.aload_n 0, 1, 0)] 6 [(0, .ref (b + v0)), (1, .ref (b + v1))] [.ref (b + v0), .int 0, .ref (b + a1)] (by decide +kernel) rfl rfl ?_
  obtain ⟨a2, e_a2, h⟩ := h
  refine jGetR C 9 (by decide +kernel : decode cX9_copyFrom 6 = .ok (.getfield 11, 3)) rfl t_v0 kX9 0 (by decide) rfl rfl (by decide) wd_89 e_a2 rfl (fun t_a2 => ?_)
  refine jB C [(.iconst 0, 1, 0), (.sipush 512, 3, 512)] 13 [(0, .ref (b + v0)), (1, .ref (b + v1))] [.int 512, .int 0, .ref (b + a2), .int 0, .ref (b + a1)] (by decide +kernel) rfl rfl ?_
  obtain ⟨y3, h⟩ := h
  refine jCopy C 16 (by decide +kernel : decode cX9_copyFrom 13 = .ok (.invokestatic 19, 3)) rfl hE t_a1 t_a2 y3 wd_789 (Nat.le_of_ble_eq_true rfl) (Nat.le_of_ble_eq_true rfl) ?_
  refine jTopS (fun S4 e_S4 => ?_)
  have h := h S4 e_S4
  refine jB C [(.aload_n 0, 1, 0), (.aload_n 1, 1, 0)] 18 [(0, .ref (b + v0)), (1, .ref (b + v1))] [.ref (b + v1), .ref (b + v0)] (by decide +kernel) rfl rfl ?_
  refine jGetI C 21 (by decide +kernel : decode cX9_copyFrom 18 = .ok (.getfield 25, 3)) rfl t_v1 kX9 1 (by decide) rfl rfl (by decide) wd_90 ?_
  refine jPutI C 24 (by decide +kernel : decode cX9_copyFrom 21 = .ok (.putfield 25, 3)) rfl hE t_v0 kX9 1 (by decide) rfl rfl (by decide) rfl wd_90 rfl rfl rfl ?_
  refine jTopS (fun S5 e_S5 => ?_)
  have h := h S5 e_S5
  refine jB C [(.aload_n 0, 1, 0), (.aload_n 1, 1, 0)] 26 [(0, .ref (b + v0)), (1, .ref (b + v1))] [.ref (b + v1), .ref (b + v0)] (by decide +kernel) rfl rfl ?_
  refine jGetI C 29 (by decide +kernel : decode cX9_copyFrom 26 = .ok (.getfield 15, 3)) rfl t_v1 kX9 2 (by decide) rfl rfl (by decide) wd_91 ?_
  refine jPutI C 32 (by decide +kernel : decode cX9_copyFrom 29 = .ok (.putfield 15, 3)) rfl hE t_v0 kX9 2 (by decide) rfl rfl (by decide) rfl wd_91 rfl rfl rfl ?_
  refine jTopS (fun S6 e_S6 => ?_)
  have h := h S6 e_S6
  exact jRetV C (by decide +kernel : decode cX9_copyFrom 32 = .ok (.return_, 1)) (Nat.le_refl _) (Nat.le_refl _) ⟨rfl, h⟩
theorem ok_X9_copyFrom {G : Gm} {v0 : Nat} {v1 : Nat} {S : St} {Q : St → Prop} (t_v0 : ok G 8 v0) (t_v1 : ok G 8 v1) (h : f_X9_copyFrom G v0 v1 Q S) : MT yX9_copyFrom cX9_copyFrom 2 none rm_X9_copyFrom 0 0 (fun b => [.ref (b + v0), .ref (b + v1)]) G S (QV (fun G1 S1 => G1 = G ∧ Q S1)) := MT.ofJ (by decide) (fun b => [(0, .ref (b + v0)), (1, .ref (b + v1))]) (fun b => rfl) (fun b => Nat.le_of_ble_eq_true rfl) (fun l b D cy p e s m below meth c C hE hn => j_X9_copyFrom C hE t_v0 t_v1 h)
theorem hd_X9_copyFrom : yX9_copyFrom.cls ≠ "java/lang/invoke/MethodHandle" ∧ yX9_copyFrom.cls ≠ "java/lang/invoke/VarHandle" ∧ (parseMethodDescriptor yX9_copyFrom.desc).map (fun d => d.parameters.length) = some 1 := by decide +kernel
def f_X0_begin (G : Gm) (v0 : Nat) (v1 : Nat) (v2 : Nat) (Q : St → Prop) (S : St) : Prop :=
  (∃ a1, S.2.2 v0 0 = some a1 ∧ f_X5_copyFrom G a1 v1 (fun S2 => (∃ a3, S2.2.2 v0 1 = some a3 ∧ f_X9_copyFrom G a3 v2 (fun S4 => (∀ S5, S5 = uI S4 v0 6 0 → (∀ S6, S6 = uI S5 v0 7 (-1) → Q S6))) S2)) S)
abbrev rm_X0_begin : Room := { frames := 2, cells := 0, slots := 0, locals := 82 }
set_option maxHeartbeats 4000000 in
set_option maxRecDepth 100000 in
theorem j_X0_begin {p : Program} {l : Launch} {e : Env} {s : State} {m : MethodId} {args : Array Value} {below : List Frame} {meth : Method} {c : Code} {b : Nat} {D : va_G} {cy : Nat → ClassId} {G : Gm} {v0 : Nat} {v1 : Nat} {v2 : Nat} {S : St} {Q : St → Prop} (C : CX p s m args meth c b D cy cX0_begin RX0 3 none) (hE : s.heap.size + 0 ≤ b + G.2.2) (t_v0 : ok G 0 v0) (t_v1 : ok G 4 v1) (t_v2 : ok G 8 v2) (h : f_X0_begin G v0 v1 v2 Q S) : J p l e rm_X0_begin s m args below meth c b D cy 3 (zV b D cy below args s G Q) 0 0 G S 0 [(0, .ref (b + v0)), (1, .ref (b + v1)), (2, .ref (b + v2))] [] := by
  unfold f_X0_begin at h
  refine jB C [(.aload_n 0, 1, 0)] 1 [(0, .ref (b + v0)), (1, .ref (b + v1)), (2, .ref (b + v2))] [.ref (b + v0)] (by decide +kernel) rfl rfl ?_
  obtain ⟨a1, e_a1, h⟩ := h
  refine jGetR C 4 (by decide +kernel : decode cX0_begin 1 = .ok (.getfield 12, 3)) rfl t_v0 kX0 0 (by decide) rfl rfl (by decide) wd_155 e_a1 rfl (fun t_a1 => ?_)
  refine jB C [(.aload_n 1, 1, 0)] 5 [(0, .ref (b + v0)), (1, .ref (b + v1)), (2, .ref (b + v2))] [.ref (b + v1), .ref (b + a1)] (by decide +kernel) rfl rfl ?_
  refine jcVN_V C 8 (rest := []) (ok_X5_copyFrom t_a1 t_v1 h) (by decide +kernel : decode cX0_begin 5 = .ok (.invokevirtual 50, 3)) rfl wn_780 wd_782 wp_63 wd_2 wd_783 ⟨rfl, rfl⟩ hd_X5_copyFrom ⟨Nat.le_of_ble_eq_true rfl, Nat.le_of_ble_eq_true rfl⟩ t_a1 kX5 (by decide) rfl rfl rfl (Nat.le_of_ble_eq_true rfl) ⟨Nat.zero_le _, Nat.zero_le _⟩ (fun S2 h => ?_)
  refine jB C [(.aload_n 0, 1, 0)] 9 [(0, .ref (b + v0)), (1, .ref (b + v1)), (2, .ref (b + v2))] [.ref (b + v0)] (by decide +kernel) rfl rfl ?_
  obtain ⟨a3, e_a3, h⟩ := h
  refine jGetR C 12 (by decide +kernel : decode cX0_begin 9 = .ok (.getfield 21, 3)) rfl t_v0 kX0 1 (by decide) rfl rfl (by decide) wd_156 e_a3 rfl (fun t_a3 => ?_)
  refine jB C [(.aload_n 2, 1, 0)] 13 [(0, .ref (b + v0)), (1, .ref (b + v1)), (2, .ref (b + v2))] [.ref (b + v2), .ref (b + a3)] (by decide +kernel) rfl rfl ?_
  refine jcVN_V C 16 (rest := []) (ok_X9_copyFrom t_a3 t_v2 h) (by decide +kernel : decode cX0_begin 13 = .ok (.invokevirtual 54, 3)) rfl wn_785 wd_787 wp_64 wd_3 wd_788 ⟨rfl, rfl⟩ hd_X9_copyFrom ⟨Nat.le_of_ble_eq_true rfl, Nat.le_of_ble_eq_true rfl⟩ t_a3 kX9 (by decide) rfl rfl rfl (Nat.le_of_ble_eq_true rfl) ⟨Nat.zero_le _, Nat.zero_le _⟩ (fun S4 h => ?_)
  refine jB C [(.aload_n 0, 1, 0), (.iconst 0, 1, 0)] 18 [(0, .ref (b + v0)), (1, .ref (b + v1)), (2, .ref (b + v2))] [.int 0, .ref (b + v0)] (by decide +kernel) rfl rfl ?_
  refine jPutI C 21 (by decide +kernel : decode cX0_begin 18 = .ok (.putfield 57, 3)) rfl hE t_v0 kX0 6 (by decide) rfl rfl (by decide) rfl wd_161 rfl rfl rfl ?_
  refine jTopS (fun S5 e_S5 => ?_)
  have h := h S5 e_S5
  refine jB C [(.aload_n 0, 1, 0), (.iconst (-1), 1, (-1))] 23 [(0, .ref (b + v0)), (1, .ref (b + v1)), (2, .ref (b + v2))] [.int (-1), .ref (b + v0)] (by decide +kernel) rfl rfl ?_
  refine jPutI C 26 (by decide +kernel : decode cX0_begin 23 = .ok (.putfield 61, 3)) rfl hE t_v0 kX0 7 (by decide) rfl rfl (by decide) rfl wd_163 rfl rfl rfl ?_
  refine jTopS (fun S6 e_S6 => ?_)
  have h := h S6 e_S6
  exact jRetV C (by decide +kernel : decode cX0_begin 26 = .ok (.return_, 1)) (Nat.le_refl _) (Nat.le_refl _) ⟨rfl, h⟩
theorem ok_X0_begin {G : Gm} {v0 : Nat} {v1 : Nat} {v2 : Nat} {S : St} {Q : St → Prop} (t_v0 : ok G 0 v0) (t_v1 : ok G 4 v1) (t_v2 : ok G 8 v2) (h : f_X0_begin G v0 v1 v2 Q S) : MT yX0_begin cX0_begin 3 none rm_X0_begin 0 0 (fun b => [.ref (b + v0), .ref (b + v1), .ref (b + v2)]) G S (QV (fun G1 S1 => G1 = G ∧ Q S1)) := MT.ofJ (by decide) (fun b => [(0, .ref (b + v0)), (1, .ref (b + v1)), (2, .ref (b + v2))]) (fun b => rfl) (fun b => Nat.le_of_ble_eq_true rfl) (fun l b D cy p e s m below meth c C hE hn => j_X0_begin C hE t_v0 t_v1 t_v2 h)
theorem hd_X0_begin : yX0_begin.cls ≠ "java/lang/invoke/MethodHandle" ∧ yX0_begin.cls ≠ "java/lang/invoke/VarHandle" ∧ (parseMethodDescriptor yX0_begin.desc).map (fun d => d.parameters.length) = some 2 := by decide +kernel
def f_X5_termOf (G : Gm) (v0 : Nat) (v1 : Int32) (Q : Int32 → St → Prop) (S : St) : Prop :=
  (if v1 < 0 then Q 0 S else (if 4 ≤ v1 then Q 0 S else (∃ a3, S.2.2 v0 4 = some a3 ∧ (vp_in v1 (G.2.1 a3) ∧ Q (S.1 a3 v1.toNatClampNeg) S))))
abbrev rm_X5_termOf : Room := { frames := 0, cells := 0, slots := 0, locals := 0 }
set_option maxHeartbeats 4000000 in
set_option maxRecDepth 100000 in
theorem j_X5_termOf {p : Program} {l : Launch} {e : Env} {s : State} {m : MethodId} {args : Array Value} {below : List Frame} {meth : Method} {c : Code} {b : Nat} {D : va_G} {cy : Nat → ClassId} {G : Gm} {v0 : Nat} {v1 : Int32} {S : St} {Q : Int32 → St → Prop} (C : CX p s m args meth c b D cy cX5_termOf RX5 2 (some .int)) (hE : s.heap.size + 0 ≤ b + G.2.2) (t_v0 : ok G 4 v0) (h : f_X5_termOf G v0 v1 Q S) : J p l e rm_X5_termOf s m args below meth c b D cy 2 (zI b D cy below args s G Q) 0 0 G S 0 [(0, .ref (b + v0)), (1, .int v1)] [] := by
  unfold f_X5_termOf at h
  refine jB C [(.iload_n 1, 1, 0)] 1 [(0, .ref (b + v0)), (1, .int v1)] [.int v1] (by decide +kernel) rfl rfl ?_
  refine jIf_lt C 4 18 (by decide +kernel : decode cX5_termOf 1 = .ok (.ifCond .lt 17, 3)) rfl rfl (fun c1 => ?_) (fun c1 => ?_)
  · have h := it1 h c1
    refine jB C [(.iconst 0, 1, 0)] 19 [(0, .ref (b + v0)), (1, .int v1)] [.int 0] (by decide +kernel) rfl rfl ?_
    exact jRetI C (by decide +kernel : decode cX5_termOf 19 = .ok (.ireturn, 1)) (Nat.le_refl _) (Nat.le_refl _) ⟨rfl, h⟩
  · have h := it2 h c1
    refine jB C [(.iload_n 1, 1, 0), (.iconst 4, 1, 4)] 6 [(0, .ref (b + v0)), (1, .int v1)] [.int 4, .int v1] (by decide +kernel) rfl rfl ?_
    refine jIcmp_ge C 9 18 (by decide +kernel : decode cX5_termOf 6 = .ok (.if_icmp .ge 12, 3)) rfl rfl (fun c2 => ?_) (fun c2 => ?_)
    · have h := it1 h c2
      refine jB C [(.iconst 0, 1, 0)] 19 [(0, .ref (b + v0)), (1, .int v1)] [.int 0] (by decide +kernel) rfl rfl ?_
      exact jRetI C (by decide +kernel : decode cX5_termOf 19 = .ok (.ireturn, 1)) (Nat.le_refl _) (Nat.le_refl _) ⟨rfl, h⟩
    · have h := it2 h c2
      refine jB C [(.aload_n 0, 1, 0)] 10 [(0, .ref (b + v0)), (1, .int v1)] [.ref (b + v0)] (by decide +kernel) rfl rfl ?_
      obtain ⟨a3, e_a3, h⟩ := h
      refine jGetR C 13 (by decide +kernel : decode cX5_termOf 10 = .ok (.getfield 21, 3)) rfl t_v0 kX5 4 (by decide) rfl rfl (by decide) wd_45 e_a3 rfl (fun t_a3 => ?_)
      refine jB C [(.iload_n 1, 1, 0)] 14 [(0, .ref (b + v0)), (1, .int v1)] [.int v1, .ref (b + a3)] (by decide +kernel) rfl rfl ?_
      obtain ⟨y4, h⟩ := h
      refine jIald C 15 (by decide +kernel : decode cX5_termOf 14 = .ok (.iaload, 1)) rfl t_a3 y4 ?_
      refine jGoto C 19 (by decide +kernel : decode cX5_termOf 15 = .ok (.goto 4, 3)) rfl ?_
      exact jRetI C (by decide +kernel : decode cX5_termOf 19 = .ok (.ireturn, 1)) (Nat.le_refl _) (Nat.le_refl _) ⟨rfl, h⟩
theorem ok_X5_termOf {G : Gm} {v0 : Nat} {v1 : Int32} {S : St} {Q : Int32 → St → Prop} (t_v0 : ok G 4 v0) (h : f_X5_termOf G v0 v1 Q S) : MT yX5_termOf cX5_termOf 2 (some .int) rm_X5_termOf 0 0 (fun b => [.ref (b + v0), .int v1]) G S (QI (fun r G1 S1 => G1 = G ∧ Q r S1)) := MT.ofJ (by decide) (fun b => [(0, .ref (b + v0)), (1, .int v1)]) (fun b => rfl) (fun b => Nat.le_of_ble_eq_true rfl) (fun l b D cy p e s m below meth c C hE hn => j_X5_termOf C hE t_v0 h)
theorem hd_X5_termOf : yX5_termOf.cls ≠ "java/lang/invoke/MethodHandle" ∧ yX5_termOf.cls ≠ "java/lang/invoke/VarHandle" ∧ (parseMethodDescriptor yX5_termOf.desc).map (fun d => d.parameters.length) = some 1 := by decide +kernel
def f_X5_has (G : Gm) (v0 : Nat) (v1 : Int32) (Q : Int32 → St → Prop) (S : St) : Prop :=
  (if v1 < 0 then Q 0 S else (if (S.1 v0 0) ≤ v1 then Q 0 S else (if 6 ≤ v1 then Q 0 S else Q 1 S)))
abbrev rm_X5_has : Room := { frames := 0, cells := 0, slots := 0, locals := 0 }
set_option maxHeartbeats 4000000 in
set_option maxRecDepth 100000 in
theorem j_X5_has {p : Program} {l : Launch} {e : Env} {s : State} {m : MethodId} {args : Array Value} {below : List Frame} {meth : Method} {c : Code} {b : Nat} {D : va_G} {cy : Nat → ClassId} {G : Gm} {v0 : Nat} {v1 : Int32} {S : St} {Q : Int32 → St → Prop} (C : CX p s m args meth c b D cy cX5_has RX5 2 (some .boolean)) (hE : s.heap.size + 0 ≤ b + G.2.2) (t_v0 : ok G 4 v0) (h : f_X5_has G v0 v1 Q S) : J p l e rm_X5_has s m args below meth c b D cy 2 (zI b D cy below args s G Q) 0 0 G S 0 [(0, .ref (b + v0)), (1, .int v1)] [] := by
  unfold f_X5_has at h
  refine jB C [(.iload_n 1, 1, 0)] 1 [(0, .ref (b + v0)), (1, .int v1)] [.int v1] (by decide +kernel) rfl rfl ?_
  refine jIf_lt C 4 22 (by decide +kernel : decode cX5_has 1 = .ok (.ifCond .lt 21, 3)) rfl rfl (fun c1 => ?_) (fun c1 => ?_)
  · have h := it1 h c1
    refine jB C [(.iconst 0, 1, 0)] 23 [(0, .ref (b + v0)), (1, .int v1)] [.int 0] (by decide +kernel) rfl rfl ?_
    exact jRetZ C (by decide +kernel : decode cX5_has 23 = .ok (.ireturn, 1)) (Nat.le_refl _) (Nat.le_refl _) (by decide) ⟨rfl, h⟩
  · have h := it2 h c1
    refine jB C [(.iload_n 1, 1, 0), (.aload_n 0, 1, 0)] 6 [(0, .ref (b + v0)), (1, .int v1)] [.ref (b + v0), .int v1] (by decide +kernel) rfl rfl ?_
    refine jGetI C 9 (by decide +kernel : decode cX5_has 6 = .ok (.getfield 40, 3)) rfl t_v0 kX5 0 (by decide) rfl rfl (by decide) wd_36 ?_
    refine jIcmp_ge C 12 22 (by decide +kernel : decode cX5_has 9 = .ok (.if_icmp .ge 13, 3)) rfl rfl (fun c2 => ?_) (fun c2 => ?_)
    · have h := it1 h c2
      refine jB C [(.iconst 0, 1, 0)] 23 [(0, .ref (b + v0)), (1, .int v1)] [.int 0] (by decide +kernel) rfl rfl ?_
      exact jRetZ C (by decide +kernel : decode cX5_has 23 = .ok (.ireturn, 1)) (Nat.le_refl _) (Nat.le_refl _) (by decide) ⟨rfl, h⟩
    · have h := it2 h c2
      refine jB C [(.iload_n 1, 1, 0), (.bipush 6, 2, 6)] 15 [(0, .ref (b + v0)), (1, .int v1)] [.int 6, .int v1] (by decide +kernel) rfl rfl ?_
      refine jIcmp_ge C 18 22 (by decide +kernel : decode cX5_has 15 = .ok (.if_icmp .ge 7, 3)) rfl rfl (fun c3 => ?_) (fun c3 => ?_)
      · have h := it1 h c3
        refine jB C [(.iconst 0, 1, 0)] 23 [(0, .ref (b + v0)), (1, .int v1)] [.int 0] (by decide +kernel) rfl rfl ?_
        exact jRetZ C (by decide +kernel : decode cX5_has 23 = .ok (.ireturn, 1)) (Nat.le_refl _) (Nat.le_refl _) (by decide) ⟨rfl, h⟩
      · have h := it2 h c3
        refine jB C [(.iconst 1, 1, 1)] 19 [(0, .ref (b + v0)), (1, .int v1)] [.int 1] (by decide +kernel) rfl rfl ?_
        refine jGoto C 23 (by decide +kernel : decode cX5_has 19 = .ok (.goto 4, 3)) rfl ?_
        exact jRetZ C (by decide +kernel : decode cX5_has 23 = .ok (.ireturn, 1)) (Nat.le_refl _) (Nat.le_refl _) (by decide) ⟨rfl, h⟩
theorem ok_X5_has {G : Gm} {v0 : Nat} {v1 : Int32} {S : St} {Q : Int32 → St → Prop} (t_v0 : ok G 4 v0) (h : f_X5_has G v0 v1 Q S) : MT yX5_has cX5_has 2 (some .boolean) rm_X5_has 0 0 (fun b => [.ref (b + v0), .int v1]) G S (QI (fun r G1 S1 => G1 = G ∧ Q r S1)) := MT.ofJ (by decide) (fun b => [(0, .ref (b + v0)), (1, .int v1)]) (fun b => rfl) (fun b => Nat.le_of_ble_eq_true rfl) (fun l b D cy p e s m below meth c C hE hn => j_X5_has C hE t_v0 h)
theorem hd_X5_has : yX5_has.cls ≠ "java/lang/invoke/MethodHandle" ∧ yX5_has.cls ≠ "java/lang/invoke/VarHandle" ∧ (parseMethodDescriptor yX5_has.desc).map (fun d => d.parameters.length) = some 1 := by decide +kernel
def f_X5_glassOf (G : Gm) (v0 : Nat) (v1 : Int32) (Q : Int32 → St → Prop) (S : St) : Prop :=
  f_X5_has G v0 v1 (fun r2 S1 => (if r2 = 0 then Q 0 S1 else (∃ a4, S1.2.2 v0 2 = some a4 ∧ (vp_in v1 (G.2.1 a4) ∧ Q (S1.1 a4 v1.toNatClampNeg) S1)))) S
abbrev rm_X5_glassOf : Room := { frames := 1, cells := 0, slots := 0, locals := 21 }
set_option maxHeartbeats 4000000 in
set_option maxRecDepth 100000 in
theorem j_X5_glassOf {p : Program} {l : Launch} {e : Env} {s : State} {m : MethodId} {args : Array Value} {below : List Frame} {meth : Method} {c : Code} {b : Nat} {D : va_G} {cy : Nat → ClassId} {G : Gm} {v0 : Nat} {v1 : Int32} {S : St} {Q : Int32 → St → Prop} (C : CX p s m args meth c b D cy cX5_glassOf RX5 2 (some .int)) (hE : s.heap.size + 0 ≤ b + G.2.2) (t_v0 : ok G 4 v0) (h : f_X5_glassOf G v0 v1 Q S) : J p l e rm_X5_glassOf s m args below meth c b D cy 2 (zI b D cy below args s G Q) 0 0 G S 0 [(0, .ref (b + v0)), (1, .int v1)] [] := by
  unfold f_X5_glassOf at h
  refine jB C [(.aload_n 0, 1, 0), (.iload_n 1, 1, 0)] 2 [(0, .ref (b + v0)), (1, .int v1)] [.int v1, .ref (b + v0)] (by decide +kernel) rfl rfl ?_
  refine jcV_I C 5 (rest := []) (ok_X5_has t_v0 h) (by decide +kernel : decode cX5_glassOf 2 = .ok (.invokevirtual 66, 3)) rfl wd_371 wd_373 wp_4 wd_2 wd_374 ⟨rfl, rfl⟩ hd_X5_has ⟨Nat.le_of_ble_eq_true rfl, Nat.le_of_ble_eq_true rfl⟩ t_v0 kX5 (by decide) rfl rfl rfl (Nat.le_of_ble_eq_true rfl) ⟨Nat.zero_le _, Nat.zero_le _⟩ (fun r2 S1 h => ?_)
  refine jIf_eq C 8 17 (by decide +kernel : decode cX5_glassOf 5 = .ok (.ifCond .eq 12, 3)) rfl rfl (fun c3 => ?_) (fun c3 => ?_)
  · have h := it1 h c3
    refine jB C [(.iconst 0, 1, 0)] 18 [(0, .ref (b + v0)), (1, .int v1)] [.int 0] (by decide +kernel) rfl rfl ?_
    exact jRetI C (by decide +kernel : decode cX5_glassOf 18 = .ok (.ireturn, 1)) (Nat.le_refl _) (Nat.le_refl _) ⟨rfl, h⟩
  · have h := it2 h c3
    refine jB C [(.aload_n 0, 1, 0)] 9 [(0, .ref (b + v0)), (1, .int v1)] [.ref (b + v0)] (by decide +kernel) rfl rfl ?_
    obtain ⟨a4, e_a4, h⟩ := h
    refine jGetR C 12 (by decide +kernel : decode cX5_glassOf 9 = .ok (.getfield 15, 3)) rfl t_v0 kX5 2 (by decide) rfl rfl (by decide) wd_42 e_a4 rfl (fun t_a4 => ?_)
    refine jB C [(.iload_n 1, 1, 0)] 13 [(0, .ref (b + v0)), (1, .int v1)] [.int v1, .ref (b + a4)] (by decide +kernel) rfl rfl ?_
    obtain ⟨y5, h⟩ := h
    refine jIald C 14 (by decide +kernel : decode cX5_glassOf 13 = .ok (.iaload, 1)) rfl t_a4 y5 ?_
    refine jGoto C 18 (by decide +kernel : decode cX5_glassOf 14 = .ok (.goto 4, 3)) rfl ?_
    exact jRetI C (by decide +kernel : decode cX5_glassOf 18 = .ok (.ireturn, 1)) (Nat.le_refl _) (Nat.le_refl _) ⟨rfl, h⟩
theorem ok_X5_glassOf {G : Gm} {v0 : Nat} {v1 : Int32} {S : St} {Q : Int32 → St → Prop} (t_v0 : ok G 4 v0) (h : f_X5_glassOf G v0 v1 Q S) : MT yX5_glassOf cX5_glassOf 2 (some .int) rm_X5_glassOf 0 0 (fun b => [.ref (b + v0), .int v1]) G S (QI (fun r G1 S1 => G1 = G ∧ Q r S1)) := MT.ofJ (by decide) (fun b => [(0, .ref (b + v0)), (1, .int v1)]) (fun b => rfl) (fun b => Nat.le_of_ble_eq_true rfl) (fun l b D cy p e s m below meth c C hE hn => j_X5_glassOf C hE t_v0 h)
theorem hd_X5_glassOf : yX5_glassOf.cls ≠ "java/lang/invoke/MethodHandle" ∧ yX5_glassOf.cls ≠ "java/lang/invoke/VarHandle" ∧ (parseMethodDescriptor yX5_glassOf.desc).map (fun d => d.parameters.length) = some 1 := by decide +kernel
def f_X3_bend (G : Gm) (v0 : Int32) (v1 : Int32) (Q : Int32 → St → Prop) (S : St) : Prop :=
  (if v0 = 1 then Q ((v1 ||| (v1 <<< ((1 : Int32) &&& 31))) &&& 255) S else (if v0 = 2 then (∀ x1 : Int32, x1 = ((v1 <<< ((4 : Int32) &&& 31)) &&& 240) ||| ((v1 >>> ((4 : Int32) &&& 31)) &&& 15) → (∀ x2 : Int32, x2 = ((x1 <<< ((2 : Int32) &&& 31)) &&& 204) ||| ((x1 >>> ((2 : Int32) &&& 31)) &&& 51) → Q (((x2 <<< ((1 : Int32) &&& 31)) &&& 170) ||| ((x2 >>> ((1 : Int32) &&& 31)) &&& 85)) S)) else (if v0 = 3 then Q (((v1 <<< ((1 : Int32) &&& 31)) ||| (v1 >>> ((7 : Int32) &&& 31))) &&& 255) S else (if v0 = 4 then Q (v1 &&& 126) S else (if v0 = 5 then Q (((v1 <<< ((4 : Int32) &&& 31)) ||| (v1 >>> ((4 : Int32) &&& 31))) &&& 255) S else (if v0 = 6 then Q (v1 ^^^ 255) S else (if v0 = 7 then Q (v1 &&& (v1 >>> ((1 : Int32) &&& 31))) S else Q v1 S)))))))
abbrev rm_X3_bend : Room := { frames := 0, cells := 0, slots := 0, locals := 0 }
set_option maxHeartbeats 4000000 in
set_option maxRecDepth 100000 in
theorem j_X3_bend {p : Program} {l : Launch} {e : Env} {s : State} {m : MethodId} {args : Array Value} {below : List Frame} {meth : Method} {c : Code} {b : Nat} {D : va_G} {cy : Nat → ClassId} {G : Gm} {v0 : Int32} {v1 : Int32} {S : St} {Q : Int32 → St → Prop} (C : CX p s m args meth c b D cy cX3_bend RX3 4 (some .int)) (hE : s.heap.size + 0 ≤ b + G.2.2) (h : f_X3_bend G v0 v1 Q S) : J p l e rm_X3_bend s m args below meth c b D cy 4 (zI b D cy below args s G Q) 0 0 G S 0 [(0, .int v0), (1, .int v1)] [] := by
  unfold f_X3_bend at h
  refine jB C [(.iload_n 0, 1, 0)] 1 [(0, .int v0), (1, .int v1)] [.int v0] (by decide +kernel) rfl rfl ?_
  by_cases c3_0 : v0 = 1
  · have h := it1 h c3_0
    refine jTabIn C 44 1 (by decide +kernel : decode cX3_bend 1 = .ok (.tableswitch 140 1 7 #[43, 53, 98, 111, 116, 128, 134], 43)) c3_0 ⟨rfl, rfl, rfl, rfl⟩ ?_
    refine jB C [(.iload_n 1, 1, 0), (.iload_n 1, 1, 0), (.iconst 1, 1, 1), (.ishl, 1, 0), (.ior, 1, 0), (.sipush 255, 3, 255), (.iand, 1, 0)] 53 [(0, .int v0), (1, .int v1)] [.int ((v1 ||| (v1 <<< ((1 : Int32) &&& 31))) &&& 255)] (by decide +kernel) rfl rfl ?_
    exact jRetI C (by decide +kernel : decode cX3_bend 53 = .ok (.ireturn, 1)) (Nat.le_refl _) (Nat.le_refl _) ⟨rfl, h⟩
  · have h := it2 h c3_0
    by_cases c3_1 : v0 = 2
    · have h := it1 h c3_1
      refine jTabIn C 54 2 (by decide +kernel : decode cX3_bend 1 = .ok (.tableswitch 140 1 7 #[43, 53, 98, 111, 116, 128, 134], 43)) c3_1 ⟨rfl, rfl, rfl, rfl⟩ ?_
      refine jB C [(.iload_n 1, 1, 0), (.iconst 4, 1, 4), (.ishl, 1, 0), (.sipush 240, 3, 240), (.iand, 1, 0), (.iload_n 1, 1, 0), (.iconst 4, 1, 4), (.ishr, 1, 0), (.bipush 15, 2, 15), (.iand, 1, 0), (.ior, 1, 0)] 68 [(0, .int v0), (1, .int v1)] [.int (((v1 <<< ((4 : Int32) &&& 31)) &&& 240) ||| ((v1 >>> ((4 : Int32) &&& 31)) &&& 15))] (by decide +kernel) rfl rfl ?_
      refine jTopI (fun x1 e_x1 => ?_)
      have h := h x1 e_x1
      refine jB C [(.istore_n 2, 1, 0), (.iload_n 2, 1, 0), (.iconst 2, 1, 2), (.ishl, 1, 0), (.sipush 204, 3, 204), (.iand, 1, 0), (.iload_n 2, 1, 0), (.iconst 2, 1, 2), (.ishr, 1, 0), (.bipush 51, 2, 51), (.iand, 1, 0), (.ior, 1, 0)] 83 [(2, .int x1), (0, .int v0), (1, .int v1)] [.int (((x1 <<< ((2 : Int32) &&& 31)) &&& 204) ||| ((x1 >>> ((2 : Int32) &&& 31)) &&& 51))] (by decide +kernel) rfl rfl ?_
      refine jTopI (fun x2 e_x2 => ?_)
      have h := h x2 e_x2
      refine jB C [(.istore_n 3, 1, 0), (.iload_n 3, 1, 0), (.iconst 1, 1, 1), (.ishl, 1, 0), (.sipush 170, 3, 170), (.iand, 1, 0), (.iload_n 3, 1, 0), (.iconst 1, 1, 1), (.ishr, 1, 0), (.bipush 85, 2, 85), (.iand, 1, 0), (.ior, 1, 0)] 98 [(3, .int x2), (2, .int x1), (0, .int v0), (1, .int v1)] [.int (((x2 <<< ((1 : Int32) &&& 31)) &&& 170) ||| ((x2 >>> ((1 : Int32) &&& 31)) &&& 85))] (by decide +kernel) rfl rfl ?_
      exact jRetI C (by decide +kernel : decode cX3_bend 98 = .ok (.ireturn, 1)) (Nat.le_refl _) (Nat.le_refl _) ⟨rfl, h⟩
    · have h := it2 h c3_1
      by_cases c3_2 : v0 = 3
      · have h := it1 h c3_2
        refine jTabIn C 99 3 (by decide +kernel : decode cX3_bend 1 = .ok (.tableswitch 140 1 7 #[43, 53, 98, 111, 116, 128, 134], 43)) c3_2 ⟨rfl, rfl, rfl, rfl⟩ ?_
        refine jB C [(.iload_n 1, 1, 0), (.iconst 1, 1, 1), (.ishl, 1, 0), (.iload_n 1, 1, 0), (.bipush 7, 2, 7), (.ishr, 1, 0), (.ior, 1, 0), (.sipush 255, 3, 255), (.iand, 1, 0)] 111 [(0, .int v0), (1, .int v1)] [.int (((v1 <<< ((1 : Int32) &&& 31)) ||| (v1 >>> ((7 : Int32) &&& 31))) &&& 255)] (by decide +kernel) rfl rfl ?_
        exact jRetI C (by decide +kernel : decode cX3_bend 111 = .ok (.ireturn, 1)) (Nat.le_refl _) (Nat.le_refl _) ⟨rfl, h⟩
      · have h := it2 h c3_2
        by_cases c3_3 : v0 = 4
        · have h := it1 h c3_3
          refine jTabIn C 112 4 (by decide +kernel : decode cX3_bend 1 = .ok (.tableswitch 140 1 7 #[43, 53, 98, 111, 116, 128, 134], 43)) c3_3 ⟨rfl, rfl, rfl, rfl⟩ ?_
          refine jB C [(.iload_n 1, 1, 0), (.bipush 126, 2, 126), (.iand, 1, 0)] 116 [(0, .int v0), (1, .int v1)] [.int (v1 &&& 126)] (by decide +kernel) rfl rfl ?_
          exact jRetI C (by decide +kernel : decode cX3_bend 116 = .ok (.ireturn, 1)) (Nat.le_refl _) (Nat.le_refl _) ⟨rfl, h⟩
        · have h := it2 h c3_3
          by_cases c3_4 : v0 = 5
          · have h := it1 h c3_4
            refine jTabIn C 117 5 (by decide +kernel : decode cX3_bend 1 = .ok (.tableswitch 140 1 7 #[43, 53, 98, 111, 116, 128, 134], 43)) c3_4 ⟨rfl, rfl, rfl, rfl⟩ ?_
            refine jB C [(.iload_n 1, 1, 0), (.iconst 4, 1, 4), (.ishl, 1, 0), (.iload_n 1, 1, 0), (.iconst 4, 1, 4), (.ishr, 1, 0), (.ior, 1, 0), (.sipush 255, 3, 255), (.iand, 1, 0)] 128 [(0, .int v0), (1, .int v1)] [.int (((v1 <<< ((4 : Int32) &&& 31)) ||| (v1 >>> ((4 : Int32) &&& 31))) &&& 255)] (by decide +kernel) rfl rfl ?_
            exact jRetI C (by decide +kernel : decode cX3_bend 128 = .ok (.ireturn, 1)) (Nat.le_refl _) (Nat.le_refl _) ⟨rfl, h⟩
          · have h := it2 h c3_4
            by_cases c3_5 : v0 = 6
            · have h := it1 h c3_5
              refine jTabIn C 129 6 (by decide +kernel : decode cX3_bend 1 = .ok (.tableswitch 140 1 7 #[43, 53, 98, 111, 116, 128, 134], 43)) c3_5 ⟨rfl, rfl, rfl, rfl⟩ ?_
              refine jB C [(.iload_n 1, 1, 0), (.sipush 255, 3, 255), (.ixor, 1, 0)] 134 [(0, .int v0), (1, .int v1)] [.int (v1 ^^^ 255)] (by decide +kernel) rfl rfl ?_
              exact jRetI C (by decide +kernel : decode cX3_bend 134 = .ok (.ireturn, 1)) (Nat.le_refl _) (Nat.le_refl _) ⟨rfl, h⟩
            · have h := it2 h c3_5
              by_cases c3_6 : v0 = 7
              · have h := it1 h c3_6
                refine jTabIn C 135 7 (by decide +kernel : decode cX3_bend 1 = .ok (.tableswitch 140 1 7 #[43, 53, 98, 111, 116, 128, 134], 43)) c3_6 ⟨rfl, rfl, rfl, rfl⟩ ?_
                refine jB C [(.iload_n 1, 1, 0), (.iload_n 1, 1, 0), (.iconst 1, 1, 1), (.ishr, 1, 0), (.iand, 1, 0)] 140 [(0, .int v0), (1, .int v1)] [.int (v1 &&& (v1 >>> ((1 : Int32) &&& 31)))] (by decide +kernel) rfl rfl ?_
                exact jRetI C (by decide +kernel : decode cX3_bend 140 = .ok (.ireturn, 1)) (Nat.le_refl _) (Nat.le_refl _) ⟨rfl, h⟩
              · have h := it2 h c3_6
                refine jTabOut C 141 (by decide +kernel : decode cX3_bend 1 = .ok (.tableswitch 140 1 7 #[43, 53, 98, 111, 116, 128, 134], 43)) rfl (by have := lv_neT c3_0 (a := 1) rfl; have := lv_neT c3_1 (a := 2) rfl; have := lv_neT c3_2 (a := 3) rfl; have := lv_neT c3_3 (a := 4) rfl; have := lv_neT c3_4 (a := 5) rfl; have := lv_neT c3_5 (a := 6) rfl; have := lv_neT c3_6 (a := 7) rfl; omega) ?_
                refine jB C [(.iload_n 1, 1, 0)] 142 [(0, .int v0), (1, .int v1)] [.int v1] (by decide +kernel) rfl rfl ?_
                exact jRetI C (by decide +kernel : decode cX3_bend 142 = .ok (.ireturn, 1)) (Nat.le_refl _) (Nat.le_refl _) ⟨rfl, h⟩
theorem ok_X3_bend {G : Gm} {v0 : Int32} {v1 : Int32} {S : St} {Q : Int32 → St → Prop} (h : f_X3_bend G v0 v1 Q S) : MT yX3_bend cX3_bend 4 (some .int) rm_X3_bend 0 0 (fun b => [.int v0, .int v1]) G S (QI (fun r G1 S1 => G1 = G ∧ Q r S1)) := MT.ofJ (by decide) (fun b => [(0, .int v0), (1, .int v1)]) (fun b => rfl) (fun b => Nat.le_of_ble_eq_true rfl) (fun l b D cy p e s m below meth c C hE hn => j_X3_bend C hE h)
theorem hd_X3_bend : yX3_bend.cls ≠ "java/lang/invoke/MethodHandle" ∧ yX3_bend.cls ≠ "java/lang/invoke/VarHandle" ∧ (parseMethodDescriptor yX3_bend.desc).map (fun d => d.parameters.length) = some 2 := by decide +kernel
def f_X3_through_32 (G : Gm) (k6 : Int32 → Int32 → St → Prop) (v0 : Int32) (v2 : Int32) (v3 : Int32) (Q : Int32 → St → Prop) (S : St) : Prop :=
  (∀ x1 : Int32, x1 = v3 / 10 → k6 v2 x1 S)
def f_X3_through_6_n (G : Gm) (v0 : Int32) (Q : Int32 → St → Prop) : Nat → Int32 → Int32 → St → Prop
  | 0, _, _, _ => False
  | n + 1, v2, v3, S => (if v3 ≤ 0 then Q v2 S else (¬ v3 = 0 ∧ (∀ x2 : Int32, x2 = (v0 / v3) - (v0 / v3) / 10 * 10 → (if x2 ≤ 0 then f_X3_through_32 G (f_X3_through_6_n G v0 Q n) v0 v2 v3 Q S else f_X3_bend G (x2 - 1) v2 (fun r5 S4 => f_X3_through_32 G (f_X3_through_6_n G v0 Q n) v0 r5 v3 Q S4) S))))
def f_X3_through_6 (G : Gm) (v0 : Int32) (Q : Int32 → St → Prop) (v2 : Int32) (v3 : Int32) (S : St) : Prop := ∃ n, f_X3_through_6_n G v0 Q n v2 v3 S
def f_X3_through (G : Gm) (v0 : Int32) (v1 : Int32) (Q : Int32 → St → Prop) (S : St) : Prop :=
  f_X3_through_6 G v0 Q v1 1000 S
abbrev rm_X3_through : Room := { frames := 1, cells := 0, slots := 0, locals := 23 }
set_option maxHeartbeats 4000000 in
set_option maxRecDepth 100000 in
theorem j_X3_through_32 {p : Program} {l : Launch} {e : Env} {s : State} {m : MethodId} {args : Array Value} {below : List Frame} {meth : Method} {c : Code} {b : Nat} {D : va_G} {cy : Nat → ClassId} {G : Gm} {k6 : Int32 → Int32 → St → Prop} {v0 : Int32} {v2 : Int32} {v3 : Int32} {S : St} {Q : Int32 → St → Prop} (C : CX p s m args meth c b D cy cX3_through RX3 5 (some .int)) (hE : s.heap.size + 0 ≤ b + G.2.2) (hk6 : ∀ v2' v3' S, k6 v2' v3' S → J p l e rm_X3_through s m args below meth c b D cy 5 (zI b D cy below args s G Q) 0 0 G S 6 [(0, .int v0), (2, .int (v2')), (3, .int (v3'))] []) (h : f_X3_through_32 G k6 v0 v2 v3 Q S) : J p l e rm_X3_through s m args below meth c b D cy 5 (zI b D cy below args s G Q) 0 0 G S 32 [(0, .int v0), (2, .int v2), (3, .int v3)] [] := by
  unfold f_X3_through_32 at h
  refine jB C [(.iload_n 3, 1, 0), (.bipush 10, 2, 10)] 35 [(0, .int v0), (2, .int v2), (3, .int v3)] [.int 10, .int v3] (by decide +kernel) rfl rfl ?_
  refine jIdiv C 36 (by decide +kernel : decode cX3_through 35 = .ok (.idiv, 1)) rfl (by decide) ?_
  refine jTopI (fun x1 e_x1 => ?_)
  have h := h x1 e_x1
  refine jB C [(.istore_n 3, 1, 0)] 37 [(3, .int x1), (0, .int v0), (2, .int v2)] [] (by decide +kernel) rfl rfl ?_
  refine jGoto C 6 (by decide +kernel : decode cX3_through 37 = .ok (.goto (-31), 3)) rfl ?_
  refine jSub [1, 2, 0] rfl ?_
  exact hk6 v2 x1 S h
set_option maxHeartbeats 4000000 in
set_option maxRecDepth 100000 in
theorem j_X3_through_6_n {p : Program} {l : Launch} {e : Env} {s : State} {m : MethodId} {args : Array Value} {below : List Frame} {meth : Method} {c : Code} {b : Nat} {D : va_G} {cy : Nat → ClassId} {G : Gm} {v0 : Int32} {Q : Int32 → St → Prop} (C : CX p s m args meth c b D cy cX3_through RX3 5 (some .int)) (hE : s.heap.size + 0 ≤ b + G.2.2) : ∀ n (v2 : Int32) (v3 : Int32) S, f_X3_through_6_n G v0 Q n v2 v3 S → J p l e rm_X3_through s m args below meth c b D cy 5 (zI b D cy below args s G Q) 0 0 G S 6 [(0, .int v0), (2, .int v2), (3, .int v3)] [] := by
  intro n
  induction n with
  | zero => intro v2 v3 S h; exact h.elim
  | succ n ih =>
    intro v2 v3 S h
    unfold f_X3_through_6_n at h
    refine jB C [(.iload_n 3, 1, 0)] 7 [(0, .int v0), (2, .int v2), (3, .int v3)] [.int v3] (by decide +kernel) rfl rfl ?_
    refine jIf_le C 10 40 (by decide +kernel : decode cX3_through 7 = .ok (.ifCond .le 33, 3)) rfl rfl (fun c1 => ?_) (fun c1 => ?_)
    · have h := it1 h c1
      refine jB C [(.iload_n 2, 1, 0)] 41 [(0, .int v0), (2, .int v2), (3, .int v3)] [.int v2] (by decide +kernel) rfl rfl ?_
      exact jRetI C (by decide +kernel : decode cX3_through 41 = .ok (.ireturn, 1)) (Nat.le_refl _) (Nat.le_refl _) ⟨rfl, h⟩
    · have h := it2 h c1
      refine jB C [(.iload_n 0, 1, 0), (.iload_n 3, 1, 0)] 12 [(0, .int v0), (2, .int v2), (3, .int v3)] [.int v3, .int v0] (by decide +kernel) rfl rfl ?_
      obtain ⟨y6, h⟩ := h
      refine jIdiv C 13 (by decide +kernel : decode cX3_through 12 = .ok (.idiv, 1)) rfl y6 ?_
      refine jB C [(.bipush 10, 2, 10)] 15 [(0, .int v0), (2, .int v2), (3, .int v3)] [.int 10, .int (v0 / v3)] (by decide +kernel) rfl rfl ?_
      refine jIrem C 16 (by decide +kernel : decode cX3_through 15 = .ok (.irem, 1)) rfl (by decide) ?_
      refine jTopI (fun x2 e_x2 => ?_)
      have h := h x2 e_x2
      refine jB C [(.istore 4, 2, 0), (.iload 4, 2, 0)] 20 [(4, .int x2), (0, .int v0), (2, .int v2), (3, .int v3)] [.int x2] (by decide +kernel) rfl rfl ?_
      refine jIf_le C 23 32 (by decide +kernel : decode cX3_through 20 = .ok (.ifCond .le 12, 3)) rfl rfl (fun c3 => ?_) (fun c3 => ?_)
      · have h := it1 h c3
        refine jSub [1, 2, 3] rfl ?_
        exact j_X3_through_32 C hE ih h
      · have h := it2 h c3
        refine jB C [(.iload 4, 2, 0), (.iconst 1, 1, 1), (.isub, 1, 0), (.iload_n 2, 1, 0)] 28 [(4, .int x2), (0, .int v0), (2, .int v2), (3, .int v3)] [.int v2, .int (x2 - 1)] (by decide +kernel) rfl rfl ?_
        refine jcS_I C 31 (rest := []) (ok_X3_bend h) (by decide +kernel : decode cX3_through 28 = .ok (.invokestatic 11, 3)) rfl wd_423 wd_424 wd_13 wd_425 ⟨rfl, rfl⟩ hd_X3_bend ⟨Nat.le_of_ble_eq_true rfl, Nat.le_of_ble_eq_true rfl⟩ rfl rfl (Nat.le_of_ble_eq_true rfl) ⟨Nat.zero_le _, Nat.zero_le _⟩ (fun r5 S4 h => ?_)
        refine jB C [(.istore_n 2, 1, 0)] 32 [(2, .int r5), (4, .int x2), (0, .int v0), (3, .int v3)] [] (by decide +kernel) rfl rfl ?_
        refine jSub [2, 0, 3] rfl ?_
        exact j_X3_through_32 C hE ih h
theorem j_X3_through_6 {p : Program} {l : Launch} {e : Env} {s : State} {m : MethodId} {args : Array Value} {below : List Frame} {meth : Method} {c : Code} {b : Nat} {D : va_G} {cy : Nat → ClassId} {G : Gm} {v0 : Int32} {v2 : Int32} {v3 : Int32} {S : St} {Q : Int32 → St → Prop} (C : CX p s m args meth c b D cy cX3_through RX3 5 (some .int)) (hE : s.heap.size + 0 ≤ b + G.2.2) (h : f_X3_through_6 G v0 Q v2 v3 S) : J p l e rm_X3_through s m args below meth c b D cy 5 (zI b D cy below args s G Q) 0 0 G S 6 [(0, .int v0), (2, .int v2), (3, .int v3)] [] := by
  obtain ⟨n, h⟩ := h
  exact j_X3_through_6_n C hE n v2 v3 S h
set_option maxHeartbeats 4000000 in
set_option maxRecDepth 100000 in
theorem j_X3_through {p : Program} {l : Launch} {e : Env} {s : State} {m : MethodId} {args : Array Value} {below : List Frame} {meth : Method} {c : Code} {b : Nat} {D : va_G} {cy : Nat → ClassId} {G : Gm} {v0 : Int32} {v1 : Int32} {S : St} {Q : Int32 → St → Prop} (C : CX p s m args meth c b D cy cX3_through RX3 5 (some .int)) (hE : s.heap.size + 0 ≤ b + G.2.2) (h : f_X3_through G v0 v1 Q S) : J p l e rm_X3_through s m args below meth c b D cy 5 (zI b D cy below args s G Q) 0 0 G S 0 [(0, .int v0), (1, .int v1)] [] := by
  unfold f_X3_through at h
  refine jB C [(.iload_n 1, 1, 0), (.istore_n 2, 1, 0), (.sipush 1000, 3, 1000), (.istore_n 3, 1, 0)] 6 [(3, .int 1000), (2, .int v1), (0, .int v0), (1, .int v1)] [] (by decide +kernel) rfl rfl ?_
  refine jSub [2, 1, 0] rfl ?_
  exact j_X3_through_6 C hE h
theorem ok_X3_through {G : Gm} {v0 : Int32} {v1 : Int32} {S : St} {Q : Int32 → St → Prop} (h : f_X3_through G v0 v1 Q S) : MT yX3_through cX3_through 5 (some .int) rm_X3_through 0 0 (fun b => [.int v0, .int v1]) G S (QI (fun r G1 S1 => G1 = G ∧ Q r S1)) := MT.ofJ (by decide) (fun b => [(0, .int v0), (1, .int v1)]) (fun b => rfl) (fun b => Nat.le_of_ble_eq_true rfl) (fun l b D cy p e s m below meth c C hE hn => j_X3_through C hE h)
theorem hd_X3_through : yX3_through.cls ≠ "java/lang/invoke/MethodHandle" ∧ yX3_through.cls ≠ "java/lang/invoke/VarHandle" ∧ (parseMethodDescriptor yX3_through.desc).map (fun d => d.parameters.length) = some 2 := by decide +kernel
def f_X5_sightOf (G : Gm) (v0 : Nat) (v1 : Int32) (Q : Int32 → St → Prop) (S : St) : Prop :=
  f_X5_glassOf G v0 v1 (fun r2 S1 => f_X5_termOf G v0 3 (fun r4 S3 => f_X3_through G r2 r4 (fun r6 S5 => Q r6 S5) S3) S1) S
abbrev rm_X5_sightOf : Room := { frames := 2, cells := 0, slots := 0, locals := 47 }
set_option maxHeartbeats 4000000 in
set_option maxRecDepth 100000 in
theorem j_X5_sightOf {p : Program} {l : Launch} {e : Env} {s : State} {m : MethodId} {args : Array Value} {below : List Frame} {meth : Method} {c : Code} {b : Nat} {D : va_G} {cy : Nat → ClassId} {G : Gm} {v0 : Nat} {v1 : Int32} {S : St} {Q : Int32 → St → Prop} (C : CX p s m args meth c b D cy cX5_sightOf RX5 2 (some .int)) (hE : s.heap.size + 0 ≤ b + G.2.2) (t_v0 : ok G 4 v0) (h : f_X5_sightOf G v0 v1 Q S) : J p l e rm_X5_sightOf s m args below meth c b D cy 2 (zI b D cy below args s G Q) 0 0 G S 0 [(0, .ref (b + v0)), (1, .int v1)] [] := by
  unfold f_X5_sightOf at h
  refine jB C [(.aload_n 0, 1, 0), (.iload_n 1, 1, 0)] 2 [(0, .ref (b + v0)), (1, .int v1)] [.int v1, .ref (b + v0)] (by decide +kernel) rfl rfl ?_
  refine jcV_I C 5 (rest := []) (ok_X5_glassOf t_v0 h) (by decide +kernel : decode cX5_sightOf 2 = .ok (.invokevirtual 81, 3)) rfl wd_415 wd_402 wp_9 wd_2 wd_403 ⟨rfl, rfl⟩ hd_X5_glassOf ⟨Nat.le_of_ble_eq_true rfl, Nat.le_of_ble_eq_true rfl⟩ t_v0 kX5 (by decide) rfl rfl rfl (Nat.le_of_ble_eq_true rfl) ⟨Nat.zero_le _, Nat.zero_le _⟩ (fun r2 S1 h => ?_)
  refine jB C [(.aload_n 0, 1, 0), (.iconst 3, 1, 3)] 7 [(0, .ref (b + v0)), (1, .int v1)] [.int 3, .ref (b + v0), .int r2] (by decide +kernel) rfl rfl ?_
  refine jcV_I C 10 (rest := [.int r2]) (ok_X5_termOf t_v0 h) (by decide +kernel : decode cX5_sightOf 7 = .ok (.invokevirtual 84, 3)) rfl wd_416 wd_418 wp_11 wd_2 wd_419 ⟨rfl, rfl⟩ hd_X5_termOf ⟨Nat.le_of_ble_eq_true rfl, Nat.le_of_ble_eq_true rfl⟩ t_v0 kX5 (by decide) rfl rfl rfl (Nat.le_of_ble_eq_true rfl) ⟨Nat.zero_le _, Nat.zero_le _⟩ (fun r4 S3 h => ?_)
  refine jcSN_I C 13 (rest := []) (ok_X3_through h) (by decide +kernel : decode cX5_sightOf 10 = .ok (.invokestatic 87, 3)) rfl wn_420 wd_421 wd_13 wd_422 ⟨rfl, rfl⟩ hd_X3_through ⟨Nat.le_of_ble_eq_true rfl, Nat.le_of_ble_eq_true rfl⟩ rfl rfl (Nat.le_of_ble_eq_true rfl) ⟨Nat.zero_le _, Nat.zero_le _⟩ (fun r6 S5 h => ?_)
  exact jRetI C (by decide +kernel : decode cX5_sightOf 13 = .ok (.ireturn, 1)) (Nat.le_refl _) (Nat.le_refl _) ⟨rfl, h⟩
theorem ok_X5_sightOf {G : Gm} {v0 : Nat} {v1 : Int32} {S : St} {Q : Int32 → St → Prop} (t_v0 : ok G 4 v0) (h : f_X5_sightOf G v0 v1 Q S) : MT yX5_sightOf cX5_sightOf 2 (some .int) rm_X5_sightOf 0 0 (fun b => [.ref (b + v0), .int v1]) G S (QI (fun r G1 S1 => G1 = G ∧ Q r S1)) := MT.ofJ (by decide) (fun b => [(0, .ref (b + v0)), (1, .int v1)]) (fun b => rfl) (fun b => Nat.le_of_ble_eq_true rfl) (fun l b D cy p e s m below meth c C hE hn => j_X5_sightOf C hE t_v0 h)
theorem hd_X5_sightOf : yX5_sightOf.cls ≠ "java/lang/invoke/MethodHandle" ∧ yX5_sightOf.cls ≠ "java/lang/invoke/VarHandle" ∧ (parseMethodDescriptor yX5_sightOf.desc).map (fun d => d.parameters.length) = some 1 := by decide +kernel
def f_X5_sinsOf_14_n (G : Gm) (v0 : Nat) (v1 : Int32) (Q : Int32 → St → Prop) : Nat → Int32 → Int32 → St → Prop
  | 0, _, _, _ => False
  | n + 1, v2, v3, S => (if 4 ≤ v3 then Q v2 S else (∃ a2, S.2.2 v0 1 = some a2 ∧ (vp_in ((v1 * 4) + v3) (G.2.1 a2) ∧ (∀ x4 : Int32, x4 = v2 + (S.1 a2 ((v1 * 4) + v3).toNatClampNeg) → (f_X5_sinsOf_14_n G v0 v1 Q n) x4 (v3 + 1) S))))
def f_X5_sinsOf_14 (G : Gm) (v0 : Nat) (v1 : Int32) (Q : Int32 → St → Prop) (v2 : Int32) (v3 : Int32) (S : St) : Prop := ∃ n, f_X5_sinsOf_14_n G v0 v1 Q n v2 v3 S
def f_X5_sinsOf (G : Gm) (v0 : Nat) (v1 : Int32) (Q : Int32 → St → Prop) (S : St) : Prop :=
  f_X5_has G v0 v1 (fun r2 S1 => (if r2 = 0 then Q 0 S1 else f_X5_sinsOf_14 G v0 v1 Q 0 0 S1)) S
abbrev rm_X5_sinsOf : Room := { frames := 1, cells := 0, slots := 0, locals := 21 }
set_option maxHeartbeats 4000000 in
set_option maxRecDepth 100000 in
theorem j_X5_sinsOf_14_n {p : Program} {l : Launch} {e : Env} {s : State} {m : MethodId} {args : Array Value} {below : List Frame} {meth : Method} {c : Code} {b : Nat} {D : va_G} {cy : Nat → ClassId} {G : Gm} {v0 : Nat} {v1 : Int32} {Q : Int32 → St → Prop} (C : CX p s m args meth c b D cy cX5_sinsOf RX5 4 (some .int)) (hE : s.heap.size + 0 ≤ b + G.2.2) (t_v0 : ok G 4 v0) : ∀ n (v2 : Int32) (v3 : Int32) S, f_X5_sinsOf_14_n G v0 v1 Q n v2 v3 S → J p l e rm_X5_sinsOf s m args below meth c b D cy 4 (zI b D cy below args s G Q) 0 0 G S 14 [(0, .ref (b + v0)), (1, .int v1), (2, .int v2), (3, .int v3)] [] := by
  intro n
  induction n with
  | zero => intro v2 v3 S h; exact h.elim
  | succ n ih =>
    intro v2 v3 S h
    unfold f_X5_sinsOf_14_n at h
    refine jB C [(.iload_n 3, 1, 0), (.iconst 4, 1, 4)] 16 [(0, .ref (b + v0)), (1, .int v1), (2, .int v2), (3, .int v3)] [.int 4, .int v3] (by decide +kernel) rfl rfl ?_
    refine jIcmp_ge C 19 38 (by decide +kernel : decode cX5_sinsOf 16 = .ok (.if_icmp .ge 22, 3)) rfl rfl (fun c1 => ?_) (fun c1 => ?_)
    · have h := it1 h c1
      refine jB C [(.iload_n 2, 1, 0)] 39 [(0, .ref (b + v0)), (1, .int v1), (2, .int v2), (3, .int v3)] [.int v2] (by decide +kernel) rfl rfl ?_
      exact jRetI C (by decide +kernel : decode cX5_sinsOf 39 = .ok (.ireturn, 1)) (Nat.le_refl _) (Nat.le_refl _) ⟨rfl, h⟩
    · have h := it2 h c1
      refine jB C [(.iload_n 2, 1, 0), (.aload_n 0, 1, 0)] 21 [(0, .ref (b + v0)), (1, .int v1), (2, .int v2), (3, .int v3)] [.ref (b + v0), .int v2] (by decide +kernel) rfl rfl ?_
      obtain ⟨a2, e_a2, h⟩ := h
      refine jGetR C 24 (by decide +kernel : decode cX5_sinsOf 21 = .ok (.getfield 9, 3)) rfl t_v0 kX5 1 (by decide) rfl rfl (by decide) wd_40 e_a2 rfl (fun t_a2 => ?_)
      refine jB C [(.iload_n 1, 1, 0), (.iconst 4, 1, 4), (.imul, 1, 0), (.iload_n 3, 1, 0), (.iadd, 1, 0)] 29 [(0, .ref (b + v0)), (1, .int v1), (2, .int v2), (3, .int v3)] [.int ((v1 * 4) + v3), .ref (b + a2), .int v2] (by decide +kernel) rfl rfl ?_
      obtain ⟨y3, h⟩ := h
      refine jIald C 30 (by decide +kernel : decode cX5_sinsOf 29 = .ok (.iaload, 1)) rfl t_a2 y3 ?_
      refine jB C [(.iadd, 1, 0)] 31 [(0, .ref (b + v0)), (1, .int v1), (2, .int v2), (3, .int v3)] [.int (v2 + (S.1 a2 ((v1 * 4) + v3).toNatClampNeg))] (by decide +kernel) rfl rfl ?_
      refine jTopI (fun x4 e_x4 => ?_)
      have h := h x4 e_x4
      refine jB C [(.istore_n 2, 1, 0), (.iinc 3 1, 3, 1)] 35 [(3, .int (v3 + 1)), (2, .int x4), (0, .ref (b + v0)), (1, .int v1)] [] (by decide +kernel) rfl rfl ?_
      refine jGoto C 14 (by decide +kernel : decode cX5_sinsOf 35 = .ok (.goto (-21), 3)) rfl ?_
      refine jSub [2, 3, 1, 0] rfl ?_
      exact ih x4 (v3 + 1) S h
theorem j_X5_sinsOf_14 {p : Program} {l : Launch} {e : Env} {s : State} {m : MethodId} {args : Array Value} {below : List Frame} {meth : Method} {c : Code} {b : Nat} {D : va_G} {cy : Nat → ClassId} {G : Gm} {v0 : Nat} {v1 : Int32} {v2 : Int32} {v3 : Int32} {S : St} {Q : Int32 → St → Prop} (C : CX p s m args meth c b D cy cX5_sinsOf RX5 4 (some .int)) (hE : s.heap.size + 0 ≤ b + G.2.2) (t_v0 : ok G 4 v0) (h : f_X5_sinsOf_14 G v0 v1 Q v2 v3 S) : J p l e rm_X5_sinsOf s m args below meth c b D cy 4 (zI b D cy below args s G Q) 0 0 G S 14 [(0, .ref (b + v0)), (1, .int v1), (2, .int v2), (3, .int v3)] [] := by
  obtain ⟨n, h⟩ := h
  exact j_X5_sinsOf_14_n C hE t_v0 n v2 v3 S h
set_option maxHeartbeats 4000000 in
set_option maxRecDepth 100000 in
theorem j_X5_sinsOf {p : Program} {l : Launch} {e : Env} {s : State} {m : MethodId} {args : Array Value} {below : List Frame} {meth : Method} {c : Code} {b : Nat} {D : va_G} {cy : Nat → ClassId} {G : Gm} {v0 : Nat} {v1 : Int32} {S : St} {Q : Int32 → St → Prop} (C : CX p s m args meth c b D cy cX5_sinsOf RX5 4 (some .int)) (hE : s.heap.size + 0 ≤ b + G.2.2) (t_v0 : ok G 4 v0) (h : f_X5_sinsOf G v0 v1 Q S) : J p l e rm_X5_sinsOf s m args below meth c b D cy 4 (zI b D cy below args s G Q) 0 0 G S 0 [(0, .ref (b + v0)), (1, .int v1)] [] := by
  unfold f_X5_sinsOf at h
  refine jB C [(.aload_n 0, 1, 0), (.iload_n 1, 1, 0)] 2 [(0, .ref (b + v0)), (1, .int v1)] [.int v1, .ref (b + v0)] (by decide +kernel) rfl rfl ?_
  refine jcV_I C 5 (rest := []) (ok_X5_has t_v0 h) (by decide +kernel : decode cX5_sinsOf 2 = .ok (.invokevirtual 66, 3)) rfl wd_371 wd_373 wp_4 wd_2 wd_374 ⟨rfl, rfl⟩ hd_X5_has ⟨Nat.le_of_ble_eq_true rfl, Nat.le_of_ble_eq_true rfl⟩ t_v0 kX5 (by decide) rfl rfl rfl (Nat.le_of_ble_eq_true rfl) ⟨Nat.zero_le _, Nat.zero_le _⟩ (fun r2 S1 h => ?_)
  refine jIf_ne C 8 10 (by decide +kernel : decode cX5_sinsOf 5 = .ok (.ifCond .ne 5, 3)) rfl rfl (fun c3 => ?_) (fun c3 => ?_)
  · have h := it2 h c3
    refine jB C [(.iconst 0, 1, 0), (.istore_n 2, 1, 0), (.iconst 0, 1, 0), (.istore_n 3, 1, 0)] 14 [(3, .int 0), (2, .int 0), (0, .ref (b + v0)), (1, .int v1)] [] (by decide +kernel) rfl rfl ?_
    refine jSub [2, 3, 1, 0] rfl ?_
    exact j_X5_sinsOf_14 C hE t_v0 h
  · have h := it1 h c3
    refine jB C [(.iconst 0, 1, 0)] 9 [(0, .ref (b + v0)), (1, .int v1)] [.int 0] (by decide +kernel) rfl rfl ?_
    exact jRetI C (by decide +kernel : decode cX5_sinsOf 9 = .ok (.ireturn, 1)) (Nat.le_refl _) (Nat.le_refl _) ⟨rfl, h⟩
theorem ok_X5_sinsOf {G : Gm} {v0 : Nat} {v1 : Int32} {S : St} {Q : Int32 → St → Prop} (t_v0 : ok G 4 v0) (h : f_X5_sinsOf G v0 v1 Q S) : MT yX5_sinsOf cX5_sinsOf 4 (some .int) rm_X5_sinsOf 0 0 (fun b => [.ref (b + v0), .int v1]) G S (QI (fun r G1 S1 => G1 = G ∧ Q r S1)) := MT.ofJ (by decide) (fun b => [(0, .ref (b + v0)), (1, .int v1)]) (fun b => rfl) (fun b => Nat.le_of_ble_eq_true rfl) (fun l b D cy p e s m below meth c C hE hn => j_X5_sinsOf C hE t_v0 h)
theorem hd_X5_sinsOf : yX5_sinsOf.cls ≠ "java/lang/invoke/MethodHandle" ∧ yX5_sinsOf.cls ≠ "java/lang/invoke/VarHandle" ∧ (parseMethodDescriptor yX5_sinsOf.desc).map (fun d => d.parameters.length) = some 1 := by decide +kernel
def f_X3_litCells_4_n (G : Gm) (v0 : Int32) (Q : Int32 → St → Prop) : Nat → Int32 → Int32 → St → Prop
  | 0, _, _, _ => False
  | n + 1, v1, v2, S => (if 8 ≤ v2 then Q v1 S else (∀ x2 : Int32, x2 = v1 + ((v0 >>> ((v2 : Int32) &&& 31)) &&& 1) → (f_X3_litCells_4_n G v0 Q n) x2 (v2 + 1) S))
def f_X3_litCells_4 (G : Gm) (v0 : Int32) (Q : Int32 → St → Prop) (v1 : Int32) (v2 : Int32) (S : St) : Prop := ∃ n, f_X3_litCells_4_n G v0 Q n v1 v2 S
def f_X3_litCells (G : Gm) (v0 : Int32) (Q : Int32 → St → Prop) (S : St) : Prop :=
  f_X3_litCells_4 G v0 Q 0 0 S
abbrev rm_X3_litCells : Room := { frames := 0, cells := 0, slots := 0, locals := 0 }
set_option maxHeartbeats 4000000 in
set_option maxRecDepth 100000 in
theorem j_X3_litCells_4_n {p : Program} {l : Launch} {e : Env} {s : State} {m : MethodId} {args : Array Value} {below : List Frame} {meth : Method} {c : Code} {b : Nat} {D : va_G} {cy : Nat → ClassId} {G : Gm} {v0 : Int32} {Q : Int32 → St → Prop} (C : CX p s m args meth c b D cy cX3_litCells RX3 3 (some .int)) (hE : s.heap.size + 0 ≤ b + G.2.2) : ∀ n (v1 : Int32) (v2 : Int32) S, f_X3_litCells_4_n G v0 Q n v1 v2 S → J p l e rm_X3_litCells s m args below meth c b D cy 3 (zI b D cy below args s G Q) 0 0 G S 4 [(0, .int v0), (1, .int v1), (2, .int v2)] [] := by
  intro n
  induction n with
  | zero => intro v1 v2 S h; exact h.elim
  | succ n ih =>
    intro v1 v2 S h
    unfold f_X3_litCells_4_n at h
    refine jB C [(.iload_n 2, 1, 0), (.bipush 8, 2, 8)] 7 [(0, .int v0), (1, .int v1), (2, .int v2)] [.int 8, .int v2] (by decide +kernel) rfl rfl ?_
    refine jIcmp_ge C 10 24 (by decide +kernel : decode cX3_litCells 7 = .ok (.if_icmp .ge 17, 3)) rfl rfl (fun c1 => ?_) (fun c1 => ?_)
    · have h := it1 h c1
      refine jB C [(.iload_n 1, 1, 0)] 25 [(0, .int v0), (1, .int v1), (2, .int v2)] [.int v1] (by decide +kernel) rfl rfl ?_
      exact jRetI C (by decide +kernel : decode cX3_litCells 25 = .ok (.ireturn, 1)) (Nat.le_refl _) (Nat.le_refl _) ⟨rfl, h⟩
    · have h := it2 h c1
      refine jB C [(.iload_n 1, 1, 0), (.iload_n 0, 1, 0), (.iload_n 2, 1, 0), (.ishr, 1, 0), (.iconst 1, 1, 1), (.iand, 1, 0), (.iadd, 1, 0)] 17 [(0, .int v0), (1, .int v1), (2, .int v2)] [.int (v1 + ((v0 >>> ((v2 : Int32) &&& 31)) &&& 1))] (by decide +kernel) rfl rfl ?_
      refine jTopI (fun x2 e_x2 => ?_)
      have h := h x2 e_x2
      refine jB C [(.istore_n 1, 1, 0), (.iinc 2 1, 3, 1)] 21 [(2, .int (v2 + 1)), (1, .int x2), (0, .int v0)] [] (by decide +kernel) rfl rfl ?_
      refine jGoto C 4 (by decide +kernel : decode cX3_litCells 21 = .ok (.goto (-17), 3)) rfl ?_
      refine jSub [2, 1, 0] rfl ?_
      exact ih x2 (v2 + 1) S h
theorem j_X3_litCells_4 {p : Program} {l : Launch} {e : Env} {s : State} {m : MethodId} {args : Array Value} {below : List Frame} {meth : Method} {c : Code} {b : Nat} {D : va_G} {cy : Nat → ClassId} {G : Gm} {v0 : Int32} {v1 : Int32} {v2 : Int32} {S : St} {Q : Int32 → St → Prop} (C : CX p s m args meth c b D cy cX3_litCells RX3 3 (some .int)) (hE : s.heap.size + 0 ≤ b + G.2.2) (h : f_X3_litCells_4 G v0 Q v1 v2 S) : J p l e rm_X3_litCells s m args below meth c b D cy 3 (zI b D cy below args s G Q) 0 0 G S 4 [(0, .int v0), (1, .int v1), (2, .int v2)] [] := by
  obtain ⟨n, h⟩ := h
  exact j_X3_litCells_4_n C hE n v1 v2 S h
set_option maxHeartbeats 4000000 in
set_option maxRecDepth 100000 in
theorem j_X3_litCells {p : Program} {l : Launch} {e : Env} {s : State} {m : MethodId} {args : Array Value} {below : List Frame} {meth : Method} {c : Code} {b : Nat} {D : va_G} {cy : Nat → ClassId} {G : Gm} {v0 : Int32} {S : St} {Q : Int32 → St → Prop} (C : CX p s m args meth c b D cy cX3_litCells RX3 3 (some .int)) (hE : s.heap.size + 0 ≤ b + G.2.2) (h : f_X3_litCells G v0 Q S) : J p l e rm_X3_litCells s m args below meth c b D cy 3 (zI b D cy below args s G Q) 0 0 G S 0 [(0, .int v0)] [] := by
  unfold f_X3_litCells at h
  refine jB C [(.iconst 0, 1, 0), (.istore_n 1, 1, 0), (.iconst 0, 1, 0), (.istore_n 2, 1, 0)] 4 [(2, .int 0), (1, .int 0), (0, .int v0)] [] (by decide +kernel) rfl rfl ?_
  refine jSub [2, 1, 0] rfl ?_
  exact j_X3_litCells_4 C hE h
theorem ok_X3_litCells {G : Gm} {v0 : Int32} {S : St} {Q : Int32 → St → Prop} (h : f_X3_litCells G v0 Q S) : MT yX3_litCells cX3_litCells 3 (some .int) rm_X3_litCells 0 0 (fun b => [.int v0]) G S (QI (fun r G1 S1 => G1 = G ∧ Q r S1)) := MT.ofJ (by decide) (fun b => [(0, .int v0)]) (fun b => rfl) (fun b => Nat.le_of_ble_eq_true rfl) (fun l b D cy p e s m below meth c C hE hn => j_X3_litCells C hE h)
theorem hd_X3_litCells : yX3_litCells.cls ≠ "java/lang/invoke/MethodHandle" ∧ yX3_litCells.cls ≠ "java/lang/invoke/VarHandle" ∧ (parseMethodDescriptor yX3_litCells.desc).map (fun d => d.parameters.length) = some 1 := by decide +kernel
def f_X3_lowestLit_2_n (G : Gm) (v0 : Int32) (Q : Int32 → St → Prop) : Nat → Int32 → St → Prop
  | 0, _, _ => False
  | n + 1, v1, S => (if 8 ≤ v1 then Q 8 S else (if ((v0 >>> ((v1 : Int32) &&& 31)) &&& 1) = 1 then Q v1 S else (f_X3_lowestLit_2_n G v0 Q n) (v1 + 1) S))
def f_X3_lowestLit_2 (G : Gm) (v0 : Int32) (Q : Int32 → St → Prop) (v1 : Int32) (S : St) : Prop := ∃ n, f_X3_lowestLit_2_n G v0 Q n v1 S
def f_X3_lowestLit (G : Gm) (v0 : Int32) (Q : Int32 → St → Prop) (S : St) : Prop :=
  f_X3_lowestLit_2 G v0 Q 0 S
abbrev rm_X3_lowestLit : Room := { frames := 0, cells := 0, slots := 0, locals := 0 }
set_option maxHeartbeats 4000000 in
set_option maxRecDepth 100000 in
theorem j_X3_lowestLit_2_n {p : Program} {l : Launch} {e : Env} {s : State} {m : MethodId} {args : Array Value} {below : List Frame} {meth : Method} {c : Code} {b : Nat} {D : va_G} {cy : Nat → ClassId} {G : Gm} {v0 : Int32} {Q : Int32 → St → Prop} (C : CX p s m args meth c b D cy cX3_lowestLit RX3 2 (some .int)) (hE : s.heap.size + 0 ≤ b + G.2.2) : ∀ n (v1 : Int32) S, f_X3_lowestLit_2_n G v0 Q n v1 S → J p l e rm_X3_lowestLit s m args below meth c b D cy 2 (zI b D cy below args s G Q) 0 0 G S 2 [(0, .int v0), (1, .int v1)] [] := by
  intro n
  induction n with
  | zero => intro v1 S h; exact h.elim
  | succ n ih =>
    intro v1 S h
    unfold f_X3_lowestLit_2_n at h
    refine jB C [(.iload_n 1, 1, 0), (.bipush 8, 2, 8)] 5 [(0, .int v0), (1, .int v1)] [.int 8, .int v1] (by decide +kernel) rfl rfl ?_
    refine jIcmp_ge C 8 25 (by decide +kernel : decode cX3_lowestLit 5 = .ok (.if_icmp .ge 20, 3)) rfl rfl (fun c1 => ?_) (fun c1 => ?_)
    · have h := it1 h c1
      refine jB C [(.bipush 8, 2, 8)] 27 [(0, .int v0), (1, .int v1)] [.int 8] (by decide +kernel) rfl rfl ?_
      exact jRetI C (by decide +kernel : decode cX3_lowestLit 27 = .ok (.ireturn, 1)) (Nat.le_refl _) (Nat.le_refl _) ⟨rfl, h⟩
    · have h := it2 h c1
      refine jB C [(.iload_n 0, 1, 0), (.iload_n 1, 1, 0), (.ishr, 1, 0), (.iconst 1, 1, 1), (.iand, 1, 0), (.iconst 1, 1, 1)] 14 [(0, .int v0), (1, .int v1)] [.int 1, .int ((v0 >>> ((v1 : Int32) &&& 31)) &&& 1)] (by decide +kernel) rfl rfl ?_
      refine jIcmp_ne C 17 19 (by decide +kernel : decode cX3_lowestLit 14 = .ok (.if_icmp .ne 5, 3)) rfl rfl (fun c2 => ?_) (fun c2 => ?_)
      · have h := it2 h c2
        refine jB C [(.iinc 1 1, 3, 1)] 22 [(1, .int (v1 + 1)), (0, .int v0)] [] (by decide +kernel) rfl rfl ?_
        refine jGoto C 2 (by decide +kernel : decode cX3_lowestLit 22 = .ok (.goto (-20), 3)) rfl ?_
        refine jSub [1, 0] rfl ?_
        exact ih (v1 + 1) S h
      · have h := it1 h c2
        refine jB C [(.iload_n 1, 1, 0)] 18 [(0, .int v0), (1, .int v1)] [.int v1] (by decide +kernel) rfl rfl ?_
        exact jRetI C (by decide +kernel : decode cX3_lowestLit 18 = .ok (.ireturn, 1)) (Nat.le_refl _) (Nat.le_refl _) ⟨rfl, h⟩
theorem j_X3_lowestLit_2 {p : Program} {l : Launch} {e : Env} {s : State} {m : MethodId} {args : Array Value} {below : List Frame} {meth : Method} {c : Code} {b : Nat} {D : va_G} {cy : Nat → ClassId} {G : Gm} {v0 : Int32} {v1 : Int32} {S : St} {Q : Int32 → St → Prop} (C : CX p s m args meth c b D cy cX3_lowestLit RX3 2 (some .int)) (hE : s.heap.size + 0 ≤ b + G.2.2) (h : f_X3_lowestLit_2 G v0 Q v1 S) : J p l e rm_X3_lowestLit s m args below meth c b D cy 2 (zI b D cy below args s G Q) 0 0 G S 2 [(0, .int v0), (1, .int v1)] [] := by
  obtain ⟨n, h⟩ := h
  exact j_X3_lowestLit_2_n C hE n v1 S h
set_option maxHeartbeats 4000000 in
set_option maxRecDepth 100000 in
theorem j_X3_lowestLit {p : Program} {l : Launch} {e : Env} {s : State} {m : MethodId} {args : Array Value} {below : List Frame} {meth : Method} {c : Code} {b : Nat} {D : va_G} {cy : Nat → ClassId} {G : Gm} {v0 : Int32} {S : St} {Q : Int32 → St → Prop} (C : CX p s m args meth c b D cy cX3_lowestLit RX3 2 (some .int)) (hE : s.heap.size + 0 ≤ b + G.2.2) (h : f_X3_lowestLit G v0 Q S) : J p l e rm_X3_lowestLit s m args below meth c b D cy 2 (zI b D cy below args s G Q) 0 0 G S 0 [(0, .int v0)] [] := by
  unfold f_X3_lowestLit at h
  refine jB C [(.iconst 0, 1, 0), (.istore_n 1, 1, 0)] 2 [(1, .int 0), (0, .int v0)] [] (by decide +kernel) rfl rfl ?_
  refine jSub [1, 0] rfl ?_
  exact j_X3_lowestLit_2 C hE h
theorem ok_X3_lowestLit {G : Gm} {v0 : Int32} {S : St} {Q : Int32 → St → Prop} (h : f_X3_lowestLit G v0 Q S) : MT yX3_lowestLit cX3_lowestLit 2 (some .int) rm_X3_lowestLit 0 0 (fun b => [.int v0]) G S (QI (fun r G1 S1 => G1 = G ∧ Q r S1)) := MT.ofJ (by decide) (fun b => [(0, .int v0)]) (fun b => rfl) (fun b => Nat.le_of_ble_eq_true rfl) (fun l b D cy p e s m below meth c C hE hn => j_X3_lowestLit C hE h)
theorem hd_X3_lowestLit : yX3_lowestLit.cls ≠ "java/lang/invoke/MethodHandle" ∧ yX3_lowestLit.cls ≠ "java/lang/invoke/VarHandle" ∧ (parseMethodDescriptor yX3_lowestLit.desc).map (fun d => d.parameters.length) = some 1 := by decide +kernel
def f_X2_aboutPerson (G : Gm) (v0 : Nat) (v1 : Nat) (v2 : Int32) (v3 : Int32) (Q : St → Prop) (S : St) : Prop :=
  (∃ a1, S.2.2 v0 0 = some a1 ∧ (vp_in 0 (G.2.1 a1) ∧ ∀ S3, S3 = uI S a1 0.toNatClampNeg v2 → (∃ a4, S3.2.2 v0 0 = some a4 ∧ (vp_in 1 (G.2.1 a4) ∧ ∀ S6, S6 = uI S3 a4 1.toNatClampNeg (-1) → (∃ a7, S6.2.2 v0 0 = some a7 ∧ (vp_in 2 (G.2.1 a7) ∧ ∀ S9, S9 = uI S6 a7 2.toNatClampNeg (-1) → (∃ a10, S9.2.2 v0 0 = some a10 ∧ f_X5_sinsOf G v1 v2 (fun r12 S11 => (vp_in 3 (G.2.1 a10) ∧ ∀ S14, S14 = uI S11 a10 3.toNatClampNeg r12 → (∃ a15, S14.2.2 v0 0 = some a15 ∧ (vp_in 4 (G.2.1 a15) ∧ ∀ S17, S17 = uI S14 a15 4.toNatClampNeg v3 → (∃ a18, S17.2.2 v0 0 = some a18 ∧ f_X3_litCells G v3 (fun r20 S19 => (vp_in 5 (G.2.1 a18) ∧ ∀ S22, S22 = uI S19 a18 5.toNatClampNeg r20 → (∃ a23, S22.2.2 v0 0 = some a23 ∧ f_X3_lowestLit G v3 (fun r25 S24 => (vp_in 6 (G.2.1 a23) ∧ ∀ S27, S27 = uI S24 a23 6.toNatClampNeg r25 → (∃ a28, S27.2.2 v0 0 = some a28 ∧ f_X5_termOf G v1 0 (fun r30 S29 => (vp_in 7 (G.2.1 a28) ∧ ∀ S32, S32 = uI S29 a28 7.toNatClampNeg r30 → (∃ a33, S32.2.2 v0 0 = some a33 ∧ f_X5_termOf G v1 2 (fun r35 S34 => (vp_in 8 (G.2.1 a33) ∧ ∀ S37, S37 = uI S34 a33 8.toNatClampNeg r35 → Q S37)) S32))) S27))) S22))) S17))))) S9)))))))
abbrev rm_X2_aboutPerson : Room := { frames := 2, cells := 0, slots := 0, locals := 44 }
set_option maxHeartbeats 4000000 in
set_option maxRecDepth 100000 in
theorem j_X2_aboutPerson {p : Program} {l : Launch} {e : Env} {s : State} {m : MethodId} {args : Array Value} {below : List Frame} {meth : Method} {c : Code} {b : Nat} {D : va_G} {cy : Nat → ClassId} {G : Gm} {v0 : Nat} {v1 : Nat} {v2 : Int32} {v3 : Int32} {S : St} {Q : St → Prop} (C : CX p s m args meth c b D cy cX2_aboutPerson RX2 4 none) (hE : s.heap.size + 0 ≤ b + G.2.2) (t_v0 : ok G 2 v0) (t_v1 : ok G 4 v1) (h : f_X2_aboutPerson G v0 v1 v2 v3 Q S) : J p l e rm_X2_aboutPerson s m args below meth c b D cy 4 (zV b D cy below args s G Q) 0 0 G S 0 [(0, .ref (b + v0)), (1, .ref (b + v1)), (2, .int v2), (3, .int v3)] [] := by
  unfold f_X2_aboutPerson at h
  refine jB C [(.aload_n 0, 1, 0)] 1 [(0, .ref (b + v0)), (1, .ref (b + v1)), (2, .int v2), (3, .int v3)] [.ref (b + v0)] (by decide +kernel) rfl rfl ?_
  obtain ⟨a1, e_a1, h⟩ := h
  refine jGetR C 4 (by decide +kernel : decode cX2_aboutPerson 1 = .ok (.getfield 9, 3)) rfl t_v0 kX2 0 (by decide) rfl rfl (by decide) wd_117 e_a1 rfl (fun t_a1 => ?_)
  refine jB C [(.iconst 0, 1, 0), (.iload_n 2, 1, 0)] 6 [(0, .ref (b + v0)), (1, .ref (b + v1)), (2, .int v2), (3, .int v3)] [.int v2, .int 0, .ref (b + a1)] (by decide +kernel) rfl rfl ?_
  obtain ⟨y2, h⟩ := h
  refine jIast C 7 (by decide +kernel : decode cX2_aboutPerson 6 = .ok (.iastore, 1)) rfl hE t_a1 y2 ?_
  refine jTopS (fun S3 e_S3 => ?_)
  have h := h S3 e_S3
  refine jB C [(.aload_n 0, 1, 0)] 8 [(0, .ref (b + v0)), (1, .ref (b + v1)), (2, .int v2), (3, .int v3)] [.ref (b + v0)] (by decide +kernel) rfl rfl ?_
  obtain ⟨a4, e_a4, h⟩ := h
  refine jGetR C 11 (by decide +kernel : decode cX2_aboutPerson 8 = .ok (.getfield 9, 3)) rfl t_v0 kX2 0 (by decide) rfl rfl (by decide) wd_117 e_a4 rfl (fun t_a4 => ?_)
  refine jB C [(.iconst 1, 1, 1), (.iconst (-1), 1, (-1))] 13 [(0, .ref (b + v0)), (1, .ref (b + v1)), (2, .int v2), (3, .int v3)] [.int (-1), .int 1, .ref (b + a4)] (by decide +kernel) rfl rfl ?_
  obtain ⟨y5, h⟩ := h
  refine jIast C 14 (by decide +kernel : decode cX2_aboutPerson 13 = .ok (.iastore, 1)) rfl hE t_a4 y5 ?_
  refine jTopS (fun S6 e_S6 => ?_)
  have h := h S6 e_S6
  refine jB C [(.aload_n 0, 1, 0)] 15 [(0, .ref (b + v0)), (1, .ref (b + v1)), (2, .int v2), (3, .int v3)] [.ref (b + v0)] (by decide +kernel) rfl rfl ?_
  obtain ⟨a7, e_a7, h⟩ := h
  refine jGetR C 18 (by decide +kernel : decode cX2_aboutPerson 15 = .ok (.getfield 9, 3)) rfl t_v0 kX2 0 (by decide) rfl rfl (by decide) wd_117 e_a7 rfl (fun t_a7 => ?_)
  refine jB C [(.iconst 2, 1, 2), (.iconst (-1), 1, (-1))] 20 [(0, .ref (b + v0)), (1, .ref (b + v1)), (2, .int v2), (3, .int v3)] [.int (-1), .int 2, .ref (b + a7)] (by decide +kernel) rfl rfl ?_
  obtain ⟨y8, h⟩ := h
  refine jIast C 21 (by decide +kernel : decode cX2_aboutPerson 20 = .ok (.iastore, 1)) rfl hE t_a7 y8 ?_
  refine jTopS (fun S9 e_S9 => ?_)
  have h := h S9 e_S9
  refine jB C [(.aload_n 0, 1, 0)] 22 [(0, .ref (b + v0)), (1, .ref (b + v1)), (2, .int v2), (3, .int v3)] [.ref (b + v0)] (by decide +kernel) rfl rfl ?_
  obtain ⟨a10, e_a10, h⟩ := h
  refine jGetR C 25 (by decide +kernel : decode cX2_aboutPerson 22 = .ok (.getfield 9, 3)) rfl t_v0 kX2 0 (by decide) rfl rfl (by decide) wd_117 e_a10 rfl (fun t_a10 => ?_)
  refine jB C [(.iconst 3, 1, 3), (.aload_n 1, 1, 0), (.iload_n 2, 1, 0)] 28 [(0, .ref (b + v0)), (1, .ref (b + v1)), (2, .int v2), (3, .int v3)] [.int v2, .ref (b + v1), .int 3, .ref (b + a10)] (by decide +kernel) rfl rfl ?_
  refine jcVN_I C 31 (rest := [.int 3, .ref (b + a10)]) (ok_X5_sinsOf t_v1 h) (by decide +kernel : decode cX2_aboutPerson 28 = .ok (.invokevirtual 61, 3)) rfl wn_434 wd_436 wp_14 wd_2 wd_437 ⟨rfl, rfl⟩ hd_X5_sinsOf ⟨Nat.le_of_ble_eq_true rfl, Nat.le_of_ble_eq_true rfl⟩ t_v1 kX5 (by decide) rfl rfl rfl (Nat.le_of_ble_eq_true rfl) ⟨Nat.zero_le _, Nat.zero_le _⟩ (fun r12 S11 h => ?_)
  obtain ⟨y13, h⟩ := h
  refine jIast C 32 (by decide +kernel : decode cX2_aboutPerson 31 = .ok (.iastore, 1)) rfl hE t_a10 y13 ?_
  refine jTopS (fun S14 e_S14 => ?_)
  have h := h S14 e_S14
  refine jB C [(.aload_n 0, 1, 0)] 33 [(0, .ref (b + v0)), (1, .ref (b + v1)), (2, .int v2), (3, .int v3)] [.ref (b + v0)] (by decide +kernel) rfl rfl ?_
  obtain ⟨a15, e_a15, h⟩ := h
  refine jGetR C 36 (by decide +kernel : decode cX2_aboutPerson 33 = .ok (.getfield 9, 3)) rfl t_v0 kX2 0 (by decide) rfl rfl (by decide) wd_117 e_a15 rfl (fun t_a15 => ?_)
  refine jB C [(.iconst 4, 1, 4), (.iload_n 3, 1, 0)] 38 [(0, .ref (b + v0)), (1, .ref (b + v1)), (2, .int v2), (3, .int v3)] [.int v3, .int 4, .ref (b + a15)] (by decide +kernel) rfl rfl ?_
  obtain ⟨y16, h⟩ := h
  refine jIast C 39 (by decide +kernel : decode cX2_aboutPerson 38 = .ok (.iastore, 1)) rfl hE t_a15 y16 ?_
  refine jTopS (fun S17 e_S17 => ?_)
  have h := h S17 e_S17
  refine jB C [(.aload_n 0, 1, 0)] 40 [(0, .ref (b + v0)), (1, .ref (b + v1)), (2, .int v2), (3, .int v3)] [.ref (b + v0)] (by decide +kernel) rfl rfl ?_
  obtain ⟨a18, e_a18, h⟩ := h
  refine jGetR C 43 (by decide +kernel : decode cX2_aboutPerson 40 = .ok (.getfield 9, 3)) rfl t_v0 kX2 0 (by decide) rfl rfl (by decide) wd_117 e_a18 rfl (fun t_a18 => ?_)
  refine jB C [(.iconst 5, 1, 5), (.iload_n 3, 1, 0)] 45 [(0, .ref (b + v0)), (1, .ref (b + v1)), (2, .int v2), (3, .int v3)] [.int v3, .int 5, .ref (b + a18)] (by decide +kernel) rfl rfl ?_
  refine jcSN_I C 48 (rest := [.int 5, .ref (b + a18)]) (ok_X3_litCells h) (by decide +kernel : decode cX2_aboutPerson 45 = .ok (.invokestatic 48, 3)) rfl wn_438 wd_439 wd_13 wd_440 ⟨rfl, rfl⟩ hd_X3_litCells ⟨Nat.le_of_ble_eq_true rfl, Nat.le_of_ble_eq_true rfl⟩ rfl rfl (Nat.le_of_ble_eq_true rfl) ⟨Nat.zero_le _, Nat.zero_le _⟩ (fun r20 S19 h => ?_)
  obtain ⟨y21, h⟩ := h
  refine jIast C 49 (by decide +kernel : decode cX2_aboutPerson 48 = .ok (.iastore, 1)) rfl hE t_a18 y21 ?_
  refine jTopS (fun S22 e_S22 => ?_)
  have h := h S22 e_S22
  refine jB C [(.aload_n 0, 1, 0)] 50 [(0, .ref (b + v0)), (1, .ref (b + v1)), (2, .int v2), (3, .int v3)] [.ref (b + v0)] (by decide +kernel) rfl rfl ?_
  obtain ⟨a23, e_a23, h⟩ := h
  refine jGetR C 53 (by decide +kernel : decode cX2_aboutPerson 50 = .ok (.getfield 9, 3)) rfl t_v0 kX2 0 (by decide) rfl rfl (by decide) wd_117 e_a23 rfl (fun t_a23 => ?_)
  refine jB C [(.bipush 6, 2, 6), (.iload_n 3, 1, 0)] 56 [(0, .ref (b + v0)), (1, .ref (b + v1)), (2, .int v2), (3, .int v3)] [.int v3, .int 6, .ref (b + a23)] (by decide +kernel) rfl rfl ?_
  refine jcSN_I C 59 (rest := [.int 6, .ref (b + a23)]) (ok_X3_lowestLit h) (by decide +kernel : decode cX2_aboutPerson 56 = .ok (.invokestatic 67, 3)) rfl wn_441 wd_442 wd_13 wd_443 ⟨rfl, rfl⟩ hd_X3_lowestLit ⟨Nat.le_of_ble_eq_true rfl, Nat.le_of_ble_eq_true rfl⟩ rfl rfl (Nat.le_of_ble_eq_true rfl) ⟨Nat.zero_le _, Nat.zero_le _⟩ (fun r25 S24 h => ?_)
  obtain ⟨y26, h⟩ := h
  refine jIast C 60 (by decide +kernel : decode cX2_aboutPerson 59 = .ok (.iastore, 1)) rfl hE t_a23 y26 ?_
  refine jTopS (fun S27 e_S27 => ?_)
  have h := h S27 e_S27
  refine jB C [(.aload_n 0, 1, 0)] 61 [(0, .ref (b + v0)), (1, .ref (b + v1)), (2, .int v2), (3, .int v3)] [.ref (b + v0)] (by decide +kernel) rfl rfl ?_
  obtain ⟨a28, e_a28, h⟩ := h
  refine jGetR C 64 (by decide +kernel : decode cX2_aboutPerson 61 = .ok (.getfield 9, 3)) rfl t_v0 kX2 0 (by decide) rfl rfl (by decide) wd_117 e_a28 rfl (fun t_a28 => ?_)
  refine jB C [(.bipush 7, 2, 7), (.aload_n 1, 1, 0), (.iconst 0, 1, 0)] 68 [(0, .ref (b + v0)), (1, .ref (b + v1)), (2, .int v2), (3, .int v3)] [.int 0, .ref (b + v1), .int 7, .ref (b + a28)] (by decide +kernel) rfl rfl ?_
  refine jcVN_I C 71 (rest := [.int 7, .ref (b + a28)]) (ok_X5_termOf t_v1 h) (by decide +kernel : decode cX2_aboutPerson 68 = .ok (.invokevirtual 64, 3)) rfl wn_444 wd_418 wp_11 wd_2 wd_419 ⟨rfl, rfl⟩ hd_X5_termOf ⟨Nat.le_of_ble_eq_true rfl, Nat.le_of_ble_eq_true rfl⟩ t_v1 kX5 (by decide) rfl rfl rfl (Nat.le_of_ble_eq_true rfl) ⟨Nat.zero_le _, Nat.zero_le _⟩ (fun r30 S29 h => ?_)
  obtain ⟨y31, h⟩ := h
  refine jIast C 72 (by decide +kernel : decode cX2_aboutPerson 71 = .ok (.iastore, 1)) rfl hE t_a28 y31 ?_
  refine jTopS (fun S32 e_S32 => ?_)
  have h := h S32 e_S32
  refine jB C [(.aload_n 0, 1, 0)] 73 [(0, .ref (b + v0)), (1, .ref (b + v1)), (2, .int v2), (3, .int v3)] [.ref (b + v0)] (by decide +kernel) rfl rfl ?_
  obtain ⟨a33, e_a33, h⟩ := h
  refine jGetR C 76 (by decide +kernel : decode cX2_aboutPerson 73 = .ok (.getfield 9, 3)) rfl t_v0 kX2 0 (by decide) rfl rfl (by decide) wd_117 e_a33 rfl (fun t_a33 => ?_)
  refine jB C [(.bipush 8, 2, 8), (.aload_n 1, 1, 0), (.iconst 2, 1, 2)] 80 [(0, .ref (b + v0)), (1, .ref (b + v1)), (2, .int v2), (3, .int v3)] [.int 2, .ref (b + v1), .int 8, .ref (b + a33)] (by decide +kernel) rfl rfl ?_
  refine jcVN_I C 83 (rest := [.int 8, .ref (b + a33)]) (ok_X5_termOf t_v1 h) (by decide +kernel : decode cX2_aboutPerson 80 = .ok (.invokevirtual 64, 3)) rfl wn_444 wd_418 wp_11 wd_2 wd_419 ⟨rfl, rfl⟩ hd_X5_termOf ⟨Nat.le_of_ble_eq_true rfl, Nat.le_of_ble_eq_true rfl⟩ t_v1 kX5 (by decide) rfl rfl rfl (Nat.le_of_ble_eq_true rfl) ⟨Nat.zero_le _, Nat.zero_le _⟩ (fun r35 S34 h => ?_)
  obtain ⟨y36, h⟩ := h
  refine jIast C 84 (by decide +kernel : decode cX2_aboutPerson 83 = .ok (.iastore, 1)) rfl hE t_a33 y36 ?_
  refine jTopS (fun S37 e_S37 => ?_)
  have h := h S37 e_S37
  exact jRetV C (by decide +kernel : decode cX2_aboutPerson 84 = .ok (.return_, 1)) (Nat.le_refl _) (Nat.le_refl _) ⟨rfl, h⟩
theorem ok_X2_aboutPerson {G : Gm} {v0 : Nat} {v1 : Nat} {v2 : Int32} {v3 : Int32} {S : St} {Q : St → Prop} (t_v0 : ok G 2 v0) (t_v1 : ok G 4 v1) (h : f_X2_aboutPerson G v0 v1 v2 v3 Q S) : MT yX2_aboutPerson cX2_aboutPerson 4 none rm_X2_aboutPerson 0 0 (fun b => [.ref (b + v0), .ref (b + v1), .int v2, .int v3]) G S (QV (fun G1 S1 => G1 = G ∧ Q S1)) := MT.ofJ (by decide) (fun b => [(0, .ref (b + v0)), (1, .ref (b + v1)), (2, .int v2), (3, .int v3)]) (fun b => rfl) (fun b => Nat.le_of_ble_eq_true rfl) (fun l b D cy p e s m below meth c C hE hn => j_X2_aboutPerson C hE t_v0 t_v1 h)
theorem hd_X2_aboutPerson : yX2_aboutPerson.cls ≠ "java/lang/invoke/MethodHandle" ∧ yX2_aboutPerson.cls ≠ "java/lang/invoke/VarHandle" ∧ (parseMethodDescriptor yX2_aboutPerson.desc).map (fun d => d.parameters.length) = some 3 := by decide +kernel
def f_X5_hasLaw (G : Gm) (v0 : Nat) (v1 : Int32) (Q : Int32 → St → Prop) (S : St) : Prop :=
  (if v1 < 0 then Q 0 S else (if (S.1 v0 8) ≤ v1 then Q 0 S else (if 6 ≤ v1 then Q 0 S else Q 1 S)))
abbrev rm_X5_hasLaw : Room := { frames := 0, cells := 0, slots := 0, locals := 0 }
set_option maxHeartbeats 4000000 in
set_option maxRecDepth 100000 in
theorem j_X5_hasLaw {p : Program} {l : Launch} {e : Env} {s : State} {m : MethodId} {args : Array Value} {below : List Frame} {meth : Method} {c : Code} {b : Nat} {D : va_G} {cy : Nat → ClassId} {G : Gm} {v0 : Nat} {v1 : Int32} {S : St} {Q : Int32 → St → Prop} (C : CX p s m args meth c b D cy cX5_hasLaw RX5 2 (some .boolean)) (hE : s.heap.size + 0 ≤ b + G.2.2) (t_v0 : ok G 4 v0) (h : f_X5_hasLaw G v0 v1 Q S) : J p l e rm_X5_hasLaw s m args below meth c b D cy 2 (zI b D cy below args s G Q) 0 0 G S 0 [(0, .ref (b + v0)), (1, .int v1)] [] := by
  unfold f_X5_hasLaw at h
  refine jB C [(.iload_n 1, 1, 0)] 1 [(0, .ref (b + v0)), (1, .int v1)] [.int v1] (by decide +kernel) rfl rfl ?_
  refine jIf_lt C 4 22 (by decide +kernel : decode cX5_hasLaw 1 = .ok (.ifCond .lt 21, 3)) rfl rfl (fun c1 => ?_) (fun c1 => ?_)
  · have h := it1 h c1
    refine jB C [(.iconst 0, 1, 0)] 23 [(0, .ref (b + v0)), (1, .int v1)] [.int 0] (by decide +kernel) rfl rfl ?_
    exact jRetZ C (by decide +kernel : decode cX5_hasLaw 23 = .ok (.ireturn, 1)) (Nat.le_refl _) (Nat.le_refl _) (by decide) ⟨rfl, h⟩
  · have h := it2 h c1
    refine jB C [(.iload_n 1, 1, 0), (.aload_n 0, 1, 0)] 6 [(0, .ref (b + v0)), (1, .int v1)] [.ref (b + v0), .int v1] (by decide +kernel) rfl rfl ?_
    refine jGetI C 9 (by decide +kernel : decode cX5_hasLaw 6 = .ok (.getfield 52, 3)) rfl t_v0 kX5 8 (by decide) rfl rfl (by decide) wd_53 ?_
    refine jIcmp_ge C 12 22 (by decide +kernel : decode cX5_hasLaw 9 = .ok (.if_icmp .ge 13, 3)) rfl rfl (fun c2 => ?_) (fun c2 => ?_)
    · have h := it1 h c2
      refine jB C [(.iconst 0, 1, 0)] 23 [(0, .ref (b + v0)), (1, .int v1)] [.int 0] (by decide +kernel) rfl rfl ?_
      exact jRetZ C (by decide +kernel : decode cX5_hasLaw 23 = .ok (.ireturn, 1)) (Nat.le_refl _) (Nat.le_refl _) (by decide) ⟨rfl, h⟩
    · have h := it2 h c2
      refine jB C [(.iload_n 1, 1, 0), (.bipush 6, 2, 6)] 15 [(0, .ref (b + v0)), (1, .int v1)] [.int 6, .int v1] (by decide +kernel) rfl rfl ?_
      refine jIcmp_ge C 18 22 (by decide +kernel : decode cX5_hasLaw 15 = .ok (.if_icmp .ge 7, 3)) rfl rfl (fun c3 => ?_) (fun c3 => ?_)
      · have h := it1 h c3
        refine jB C [(.iconst 0, 1, 0)] 23 [(0, .ref (b + v0)), (1, .int v1)] [.int 0] (by decide +kernel) rfl rfl ?_
        exact jRetZ C (by decide +kernel : decode cX5_hasLaw 23 = .ok (.ireturn, 1)) (Nat.le_refl _) (Nat.le_refl _) (by decide) ⟨rfl, h⟩
      · have h := it2 h c3
        refine jB C [(.iconst 1, 1, 1)] 19 [(0, .ref (b + v0)), (1, .int v1)] [.int 1] (by decide +kernel) rfl rfl ?_
        refine jGoto C 23 (by decide +kernel : decode cX5_hasLaw 19 = .ok (.goto 4, 3)) rfl ?_
        exact jRetZ C (by decide +kernel : decode cX5_hasLaw 23 = .ok (.ireturn, 1)) (Nat.le_refl _) (Nat.le_refl _) (by decide) ⟨rfl, h⟩
theorem ok_X5_hasLaw {G : Gm} {v0 : Nat} {v1 : Int32} {S : St} {Q : Int32 → St → Prop} (t_v0 : ok G 4 v0) (h : f_X5_hasLaw G v0 v1 Q S) : MT yX5_hasLaw cX5_hasLaw 2 (some .boolean) rm_X5_hasLaw 0 0 (fun b => [.ref (b + v0), .int v1]) G S (QI (fun r G1 S1 => G1 = G ∧ Q r S1)) := MT.ofJ (by decide) (fun b => [(0, .ref (b + v0)), (1, .int v1)]) (fun b => rfl) (fun b => Nat.le_of_ble_eq_true rfl) (fun l b D cy p e s m below meth c C hE hn => j_X5_hasLaw C hE t_v0 h)
theorem hd_X5_hasLaw : yX5_hasLaw.cls ≠ "java/lang/invoke/MethodHandle" ∧ yX5_hasLaw.cls ≠ "java/lang/invoke/VarHandle" ∧ (parseMethodDescriptor yX5_hasLaw.desc).map (fun d => d.parameters.length) = some 1 := by decide +kernel
def f_X5_lawAt (G : Gm) (v0 : Nat) (v1 : Int32) (Q : Option Nat → St → Prop) (S : St) : Prop :=
  f_X5_hasLaw G v0 v1 (fun r2 S1 => (if r2 = 0 then Q none S1 else (∃ a4, S1.2.2 v0 9 = some a4 ∧ (vp_in v1 (G.2.1 a4) ∧ ∀ r7, r7 = S1.2.2 a4 v1.toNatClampNeg → Q r7 S1)))) S
abbrev rm_X5_lawAt : Room := { frames := 1, cells := 0, slots := 0, locals := 21 }
set_option maxHeartbeats 4000000 in
set_option maxRecDepth 100000 in
theorem j_X5_lawAt {p : Program} {l : Launch} {e : Env} {s : State} {m : MethodId} {args : Array Value} {below : List Frame} {meth : Method} {c : Code} {b : Nat} {D : va_G} {cy : Nat → ClassId} {G : Gm} {v0 : Nat} {v1 : Int32} {S : St} {Q : Option Nat → St → Prop} (C : CX p s m args meth c b D cy cX5_lawAt RX5 2 (some (.object "SinLenses$Text"))) (hE : s.heap.size + 0 ≤ b + G.2.2) (t_v0 : ok G 4 v0) (h : f_X5_lawAt G v0 v1 Q S) : J p l e rm_X5_lawAt s m args below meth c b D cy 2 (zO b D cy below args s G Q) 0 0 G S 0 [(0, .ref (b + v0)), (1, .int v1)] [] := by
  unfold f_X5_lawAt at h
  refine jB C [(.aload_n 0, 1, 0), (.iload_n 1, 1, 0)] 2 [(0, .ref (b + v0)), (1, .int v1)] [.int v1, .ref (b + v0)] (by decide +kernel) rfl rfl ?_
  refine jcV_I C 5 (rest := []) (ok_X5_hasLaw t_v0 h) (by decide +kernel : decode cX5_lawAt 2 = .ok (.invokevirtual 93, 3)) rfl wd_453 wd_455 wp_17 wd_2 wd_456 ⟨rfl, rfl⟩ hd_X5_hasLaw ⟨Nat.le_of_ble_eq_true rfl, Nat.le_of_ble_eq_true rfl⟩ t_v0 kX5 (by decide) rfl rfl rfl (Nat.le_of_ble_eq_true rfl) ⟨Nat.zero_le _, Nat.zero_le _⟩ (fun r2 S1 h => ?_)
  refine jIf_eq C 8 17 (by decide +kernel : decode cX5_lawAt 5 = .ok (.ifCond .eq 12, 3)) rfl rfl (fun c3 => ?_) (fun c3 => ?_)
  · have h := it1 h c3
    refine jNull C 18 (by decide +kernel : decode cX5_lawAt 17 = .ok (.aconst_null, 1)) rfl ?_
    exact jRetO C (r := none) (by decide +kernel : decode cX5_lawAt 18 = .ok (.areturn, 1)) (Nat.le_refl _) (Nat.le_refl _) ⟨rfl, h⟩
  · have h := it2 h c3
    refine jB C [(.aload_n 0, 1, 0)] 9 [(0, .ref (b + v0)), (1, .int v1)] [.ref (b + v0)] (by decide +kernel) rfl rfl ?_
    obtain ⟨a4, e_a4, h⟩ := h
    refine jGetR C 12 (by decide +kernel : decode cX5_lawAt 9 = .ok (.getfield 32, 3)) rfl t_v0 kX5 9 (by decide) rfl rfl (by decide) wd_55 e_a4 rfl (fun t_a4 => ?_)
    refine jB C [(.iload_n 1, 1, 0)] 13 [(0, .ref (b + v0)), (1, .int v1)] [.int v1, .ref (b + a4)] (by decide +kernel) rfl rfl ?_
    obtain ⟨y5, h⟩ := h
    refine jAald15 C 14 (by decide +kernel : decode cX5_lawAt 13 = .ok (.aaload, 1)) rfl t_a4 y5 (fun t6 => ?_)
    refine jTopQ (fun r7 e_r7 => ?_)
    rw [← e_r7] at t6
    have h := h r7 e_r7
    refine jGoto C 18 (by decide +kernel : decode cX5_lawAt 14 = .ok (.goto 4, 3)) rfl ?_
    exact jRetO C (r := r7) (by decide +kernel : decode cX5_lawAt 18 = .ok (.areturn, 1)) (Nat.le_refl _) (Nat.le_refl _) ⟨rfl, h⟩
theorem ok_X5_lawAt {G : Gm} {v0 : Nat} {v1 : Int32} {S : St} {Q : Option Nat → St → Prop} (t_v0 : ok G 4 v0) (h : f_X5_lawAt G v0 v1 Q S) : MT yX5_lawAt cX5_lawAt 2 (some (.object "SinLenses$Text")) rm_X5_lawAt 0 0 (fun b => [.ref (b + v0), .int v1]) G S (QO (fun r G1 S1 => G1 = G ∧ Q r S1)) := MT.ofJ (by decide) (fun b => [(0, .ref (b + v0)), (1, .int v1)]) (fun b => rfl) (fun b => Nat.le_of_ble_eq_true rfl) (fun l b D cy p e s m below meth c C hE hn => j_X5_lawAt C hE t_v0 h)
theorem hd_X5_lawAt : yX5_lawAt.cls ≠ "java/lang/invoke/MethodHandle" ∧ yX5_lawAt.cls ≠ "java/lang/invoke/VarHandle" ∧ (parseMethodDescriptor yX5_lawAt.desc).map (fun d => d.parameters.length) = some 1 := by decide +kernel
def f_X5_lawInForce (G : Gm) (v0 : Nat) (Q : Option Nat → St → Prop) (S : St) : Prop :=
  f_X5_lawAt G v0 (S.1 v0 10) (fun r2 S1 => (∀ z, r2 = some z → ok G 7 z) ∧ Q r2 S1) S
abbrev rm_X5_lawInForce : Room := { frames := 2, cells := 0, slots := 0, locals := 42 }
set_option maxHeartbeats 4000000 in
set_option maxRecDepth 100000 in
theorem j_X5_lawInForce {p : Program} {l : Launch} {e : Env} {s : State} {m : MethodId} {args : Array Value} {below : List Frame} {meth : Method} {c : Code} {b : Nat} {D : va_G} {cy : Nat → ClassId} {G : Gm} {v0 : Nat} {S : St} {Q : Option Nat → St → Prop} (C : CX p s m args meth c b D cy cX5_lawInForce RX5 1 (some (.object "SinLenses$Text"))) (hE : s.heap.size + 0 ≤ b + G.2.2) (t_v0 : ok G 4 v0) (h : f_X5_lawInForce G v0 Q S) : J p l e rm_X5_lawInForce s m args below meth c b D cy 1 (zO b D cy below args s G Q) 0 0 G S 0 [(0, .ref (b + v0))] [] := by
  unfold f_X5_lawInForce at h
  refine jB C [(.aload_n 0, 1, 0), (.aload_n 0, 1, 0)] 2 [(0, .ref (b + v0))] [.ref (b + v0), .ref (b + v0)] (by decide +kernel) rfl rfl ?_
  refine jGetI C 5 (by decide +kernel : decode cX5_lawInForce 2 = .ok (.getfield 36, 3)) rfl t_v0 kX5 10 (by decide) rfl rfl (by decide) wd_56 ?_
  refine jcV_O C 8 (rest := []) (ok_X5_lawAt t_v0 h) (by decide +kernel : decode cX5_lawInForce 5 = .ok (.invokevirtual 96, 3)) rfl wd_449 wd_451 wp_16 wd_2 wd_452 ⟨rfl, rfl⟩ hd_X5_lawAt ⟨Nat.le_of_ble_eq_true rfl, Nat.le_of_ble_eq_true rfl⟩ t_v0 kX5 (by decide) rfl rfl rfl (Nat.le_of_ble_eq_true rfl) ⟨Nat.zero_le _, Nat.zero_le _⟩ (fun r2 S1 h => ?_)
  obtain ⟨t3, h⟩ := h
  exact jRetO C (r := r2) (by decide +kernel : decode cX5_lawInForce 8 = .ok (.areturn, 1)) (Nat.le_refl _) (Nat.le_refl _) ⟨rfl, h⟩
theorem ok_X5_lawInForce {G : Gm} {v0 : Nat} {S : St} {Q : Option Nat → St → Prop} (t_v0 : ok G 4 v0) (h : f_X5_lawInForce G v0 Q S) : MT yX5_lawInForce cX5_lawInForce 1 (some (.object "SinLenses$Text")) rm_X5_lawInForce 0 0 (fun b => [.ref (b + v0)]) G S (QO (fun r G1 S1 => G1 = G ∧ Q r S1)) := MT.ofJ (by decide) (fun b => [(0, .ref (b + v0))]) (fun b => rfl) (fun b => Nat.le_of_ble_eq_true rfl) (fun l b D cy p e s m below meth c C hE hn => j_X5_lawInForce C hE t_v0 h)
theorem hd_X5_lawInForce : yX5_lawInForce.cls ≠ "java/lang/invoke/MethodHandle" ∧ yX5_lawInForce.cls ≠ "java/lang/invoke/VarHandle" ∧ (parseMethodDescriptor yX5_lawInForce.desc).map (fun d => d.parameters.length) = some 0 := by decide +kernel
def f_X8_verbOf (G : Gm) (v0 : Nat) (v1 : Int32) (Q : Int32 → St → Prop) (S : St) : Prop :=
  (if v1 < 0 then Q (-1) S else (∃ a2, S.2.2 v0 0 = some a2 ∧ (if (nI (G.2.1 a2)) ≤ v1 then Q (-1) S else (∃ a4, S.2.2 v0 0 = some a4 ∧ (vp_in v1 (G.2.1 a4) ∧ Q (S.1 a4 v1.toNatClampNeg) S)))))
abbrev rm_X8_verbOf : Room := { frames := 0, cells := 0, slots := 0, locals := 0 }
set_option maxHeartbeats 4000000 in
set_option maxRecDepth 100000 in
theorem j_X8_verbOf {p : Program} {l : Launch} {e : Env} {s : State} {m : MethodId} {args : Array Value} {below : List Frame} {meth : Method} {c : Code} {b : Nat} {D : va_G} {cy : Nat → ClassId} {G : Gm} {v0 : Nat} {v1 : Int32} {S : St} {Q : Int32 → St → Prop} (C : CX p s m args meth c b D cy cX8_verbOf RX8 2 (some .int)) (hE : s.heap.size + 0 ≤ b + G.2.2) (t_v0 : ok G 7 v0) (h : f_X8_verbOf G v0 v1 Q S) : J p l e rm_X8_verbOf s m args below meth c b D cy 2 (zI b D cy below args s G Q) 0 0 G S 0 [(0, .ref (b + v0)), (1, .int v1)] [] := by
  unfold f_X8_verbOf at h
  refine jB C [(.iload_n 1, 1, 0)] 1 [(0, .ref (b + v0)), (1, .int v1)] [.int v1] (by decide +kernel) rfl rfl ?_
  refine jIf_lt C 4 22 (by decide +kernel : decode cX8_verbOf 1 = .ok (.ifCond .lt 21, 3)) rfl rfl (fun c1 => ?_) (fun c1 => ?_)
  · have h := it1 h c1
    refine jB C [(.iconst (-1), 1, (-1))] 23 [(0, .ref (b + v0)), (1, .int v1)] [.int (-1)] (by decide +kernel) rfl rfl ?_
    exact jRetI C (by decide +kernel : decode cX8_verbOf 23 = .ok (.ireturn, 1)) (Nat.le_refl _) (Nat.le_refl _) ⟨rfl, h⟩
  · have h := it2 h c1
    refine jB C [(.iload_n 1, 1, 0), (.aload_n 0, 1, 0)] 6 [(0, .ref (b + v0)), (1, .int v1)] [.ref (b + v0), .int v1] (by decide +kernel) rfl rfl ?_
    obtain ⟨a2, e_a2, h⟩ := h
    refine jGetR C 9 (by decide +kernel : decode cX8_verbOf 6 = .ok (.getfield 13, 3)) rfl t_v0 kX8 0 (by decide) rfl rfl (by decide) wd_249 e_a2 rfl (fun t_a2 => ?_)
    refine jAlen11 C 10 (by decide +kernel : decode cX8_verbOf 9 = .ok (.arraylength, 1)) rfl t_a2 ?_
    refine jIcmp_ge C 13 22 (by decide +kernel : decode cX8_verbOf 10 = .ok (.if_icmp .ge 12, 3)) rfl rfl (fun c3 => ?_) (fun c3 => ?_)
    · have h := it1 h c3
      refine jB C [(.iconst (-1), 1, (-1))] 23 [(0, .ref (b + v0)), (1, .int v1)] [.int (-1)] (by decide +kernel) rfl rfl ?_
      exact jRetI C (by decide +kernel : decode cX8_verbOf 23 = .ok (.ireturn, 1)) (Nat.le_refl _) (Nat.le_refl _) ⟨rfl, h⟩
    · have h := it2 h c3
      refine jB C [(.aload_n 0, 1, 0)] 14 [(0, .ref (b + v0)), (1, .int v1)] [.ref (b + v0)] (by decide +kernel) rfl rfl ?_
      obtain ⟨a4, e_a4, h⟩ := h
      refine jGetR C 17 (by decide +kernel : decode cX8_verbOf 14 = .ok (.getfield 13, 3)) rfl t_v0 kX8 0 (by decide) rfl rfl (by decide) wd_249 e_a4 rfl (fun t_a4 => ?_)
      refine jB C [(.iload_n 1, 1, 0)] 18 [(0, .ref (b + v0)), (1, .int v1)] [.int v1, .ref (b + a4)] (by decide +kernel) rfl rfl ?_
      obtain ⟨y5, h⟩ := h
      refine jIald C 19 (by decide +kernel : decode cX8_verbOf 18 = .ok (.iaload, 1)) rfl t_a4 y5 ?_
      refine jGoto C 23 (by decide +kernel : decode cX8_verbOf 19 = .ok (.goto 4, 3)) rfl ?_
      exact jRetI C (by decide +kernel : decode cX8_verbOf 23 = .ok (.ireturn, 1)) (Nat.le_refl _) (Nat.le_refl _) ⟨rfl, h⟩
theorem ok_X8_verbOf {G : Gm} {v0 : Nat} {v1 : Int32} {S : St} {Q : Int32 → St → Prop} (t_v0 : ok G 7 v0) (h : f_X8_verbOf G v0 v1 Q S) : MT yX8_verbOf cX8_verbOf 2 (some .int) rm_X8_verbOf 0 0 (fun b => [.ref (b + v0), .int v1]) G S (QI (fun r G1 S1 => G1 = G ∧ Q r S1)) := MT.ofJ (by decide) (fun b => [(0, .ref (b + v0)), (1, .int v1)]) (fun b => rfl) (fun b => Nat.le_of_ble_eq_true rfl) (fun l b D cy p e s m below meth c C hE hn => j_X8_verbOf C hE t_v0 h)
theorem hd_X8_verbOf : yX8_verbOf.cls ≠ "java/lang/invoke/MethodHandle" ∧ yX8_verbOf.cls ≠ "java/lang/invoke/VarHandle" ∧ (parseMethodDescriptor yX8_verbOf.desc).map (fun d => d.parameters.length) = some 1 := by decide +kernel
def f_X8_markOf (G : Gm) (v0 : Nat) (v1 : Int32) (v2 : Int32) (Q : Int32 → St → Prop) (S : St) : Prop :=
  (∀ x1 : Int32, x1 = (v1 * 4) + v2 → (if x1 < 0 then Q 0 S else (∃ a3, S.2.2 v0 3 = some a3 ∧ (if (nI (G.2.1 a3)) ≤ x1 then Q 0 S else (∃ a5, S.2.2 v0 3 = some a5 ∧ (vp_in x1 (G.2.1 a5) ∧ Q (S.1 a5 x1.toNatClampNeg) S))))))
abbrev rm_X8_markOf : Room := { frames := 0, cells := 0, slots := 0, locals := 0 }
set_option maxHeartbeats 4000000 in
set_option maxRecDepth 100000 in
theorem j_X8_markOf {p : Program} {l : Launch} {e : Env} {s : State} {m : MethodId} {args : Array Value} {below : List Frame} {meth : Method} {c : Code} {b : Nat} {D : va_G} {cy : Nat → ClassId} {G : Gm} {v0 : Nat} {v1 : Int32} {v2 : Int32} {S : St} {Q : Int32 → St → Prop} (C : CX p s m args meth c b D cy cX8_markOf RX8 4 (some .int)) (hE : s.heap.size + 0 ≤ b + G.2.2) (t_v0 : ok G 7 v0) (h : f_X8_markOf G v0 v1 v2 Q S) : J p l e rm_X8_markOf s m args below meth c b D cy 4 (zI b D cy below args s G Q) 0 0 G S 0 [(0, .ref (b + v0)), (1, .int v1), (2, .int v2)] [] := by
  unfold f_X8_markOf at h
  refine jB C [(.iload_n 1, 1, 0), (.iconst 4, 1, 4), (.imul, 1, 0), (.iload_n 2, 1, 0), (.iadd, 1, 0)] 5 [(0, .ref (b + v0)), (1, .int v1), (2, .int v2)] [.int ((v1 * 4) + v2)] (by decide +kernel) rfl rfl ?_
  refine jTopI (fun x1 e_x1 => ?_)
  have h := h x1 e_x1
  refine jB C [(.istore_n 3, 1, 0), (.iload_n 3, 1, 0)] 7 [(3, .int x1), (0, .ref (b + v0)), (1, .int v1), (2, .int v2)] [.int x1] (by decide +kernel) rfl rfl ?_
  refine jIf_lt C 10 28 (by decide +kernel : decode cX8_markOf 7 = .ok (.ifCond .lt 21, 3)) rfl rfl (fun c2 => ?_) (fun c2 => ?_)
  · have h := it1 h c2
    refine jB C [(.iconst 0, 1, 0)] 29 [(3, .int x1), (0, .ref (b + v0)), (1, .int v1), (2, .int v2)] [.int 0] (by decide +kernel) rfl rfl ?_
    exact jRetI C (by decide +kernel : decode cX8_markOf 29 = .ok (.ireturn, 1)) (Nat.le_refl _) (Nat.le_refl _) ⟨rfl, h⟩
  · have h := it2 h c2
    refine jB C [(.iload_n 3, 1, 0), (.aload_n 0, 1, 0)] 12 [(3, .int x1), (0, .ref (b + v0)), (1, .int v1), (2, .int v2)] [.ref (b + v0), .int x1] (by decide +kernel) rfl rfl ?_
    obtain ⟨a3, e_a3, h⟩ := h
    refine jGetR C 15 (by decide +kernel : decode cX8_markOf 12 = .ok (.getfield 25, 3)) rfl t_v0 kX8 3 (by decide) rfl rfl (by decide) wd_252 e_a3 rfl (fun t_a3 => ?_)
    refine jAlen11 C 16 (by decide +kernel : decode cX8_markOf 15 = .ok (.arraylength, 1)) rfl t_a3 ?_
    refine jIcmp_ge C 19 28 (by decide +kernel : decode cX8_markOf 16 = .ok (.if_icmp .ge 12, 3)) rfl rfl (fun c4 => ?_) (fun c4 => ?_)
    · have h := it1 h c4
      refine jB C [(.iconst 0, 1, 0)] 29 [(3, .int x1), (0, .ref (b + v0)), (1, .int v1), (2, .int v2)] [.int 0] (by decide +kernel) rfl rfl ?_
      exact jRetI C (by decide +kernel : decode cX8_markOf 29 = .ok (.ireturn, 1)) (Nat.le_refl _) (Nat.le_refl _) ⟨rfl, h⟩
    · have h := it2 h c4
      refine jB C [(.aload_n 0, 1, 0)] 20 [(3, .int x1), (0, .ref (b + v0)), (1, .int v1), (2, .int v2)] [.ref (b + v0)] (by decide +kernel) rfl rfl ?_
      obtain ⟨a5, e_a5, h⟩ := h
      refine jGetR C 23 (by decide +kernel : decode cX8_markOf 20 = .ok (.getfield 25, 3)) rfl t_v0 kX8 3 (by decide) rfl rfl (by decide) wd_252 e_a5 rfl (fun t_a5 => ?_)
      refine jB C [(.iload_n 3, 1, 0)] 24 [(3, .int x1), (0, .ref (b + v0)), (1, .int v1), (2, .int v2)] [.int x1, .ref (b + a5)] (by decide +kernel) rfl rfl ?_
      obtain ⟨y6, h⟩ := h
      refine jIald C 25 (by decide +kernel : decode cX8_markOf 24 = .ok (.iaload, 1)) rfl t_a5 y6 ?_
      refine jGoto C 29 (by decide +kernel : decode cX8_markOf 25 = .ok (.goto 4, 3)) rfl ?_
      exact jRetI C (by decide +kernel : decode cX8_markOf 29 = .ok (.ireturn, 1)) (Nat.le_refl _) (Nat.le_refl _) ⟨rfl, h⟩
theorem ok_X8_markOf {G : Gm} {v0 : Nat} {v1 : Int32} {v2 : Int32} {S : St} {Q : Int32 → St → Prop} (t_v0 : ok G 7 v0) (h : f_X8_markOf G v0 v1 v2 Q S) : MT yX8_markOf cX8_markOf 4 (some .int) rm_X8_markOf 0 0 (fun b => [.ref (b + v0), .int v1, .int v2]) G S (QI (fun r G1 S1 => G1 = G ∧ Q r S1)) := MT.ofJ (by decide) (fun b => [(0, .ref (b + v0)), (1, .int v1), (2, .int v2)]) (fun b => rfl) (fun b => Nat.le_of_ble_eq_true rfl) (fun l b D cy p e s m below meth c C hE hn => j_X8_markOf C hE t_v0 h)
theorem hd_X8_markOf : yX8_markOf.cls ≠ "java/lang/invoke/MethodHandle" ∧ yX8_markOf.cls ≠ "java/lang/invoke/VarHandle" ∧ (parseMethodDescriptor yX8_markOf.desc).map (fun d => d.parameters.length) = some 2 := by decide +kernel
def f_X7_wordAt (G : Gm) (v0 : Nat) (v1 : Int32) (Q : Int32 → St → Prop) (S : St) : Prop :=
  (if v1 < 0 then Q (-1) S else (if (nI (G.2.1 v0)) ≤ v1 then Q (-1) S else (vp_in v1 (G.2.1 v0) ∧ Q (S.1 v0 v1.toNatClampNeg) S)))
abbrev rm_X7_wordAt : Room := { frames := 0, cells := 0, slots := 0, locals := 0 }
set_option maxHeartbeats 4000000 in
set_option maxRecDepth 100000 in
theorem j_X7_wordAt {p : Program} {l : Launch} {e : Env} {s : State} {m : MethodId} {args : Array Value} {below : List Frame} {meth : Method} {c : Code} {b : Nat} {D : va_G} {cy : Nat → ClassId} {G : Gm} {v0 : Nat} {v1 : Int32} {S : St} {Q : Int32 → St → Prop} (C : CX p s m args meth c b D cy cX7_wordAt RX7 2 (some .int)) (hE : s.heap.size + 0 ≤ b + G.2.2) (t_v0 : ok G 11 v0) (h : f_X7_wordAt G v0 v1 Q S) : J p l e rm_X7_wordAt s m args below meth c b D cy 2 (zI b D cy below args s G Q) 0 0 G S 0 [(0, .ref (b + v0)), (1, .int v1)] [] := by
  unfold f_X7_wordAt at h
  refine jB C [(.iload_n 1, 1, 0)] 1 [(0, .ref (b + v0)), (1, .int v1)] [.int v1] (by decide +kernel) rfl rfl ?_
  refine jIf_lt C 4 16 (by decide +kernel : decode cX7_wordAt 1 = .ok (.ifCond .lt 15, 3)) rfl rfl (fun c1 => ?_) (fun c1 => ?_)
  · have h := it1 h c1
    refine jB C [(.iconst (-1), 1, (-1))] 17 [(0, .ref (b + v0)), (1, .int v1)] [.int (-1)] (by decide +kernel) rfl rfl ?_
    exact jRetI C (by decide +kernel : decode cX7_wordAt 17 = .ok (.ireturn, 1)) (Nat.le_refl _) (Nat.le_refl _) ⟨rfl, h⟩
  · have h := it2 h c1
    refine jB C [(.iload_n 1, 1, 0), (.aload_n 0, 1, 0)] 6 [(0, .ref (b + v0)), (1, .int v1)] [.ref (b + v0), .int v1] (by decide +kernel) rfl rfl ?_
    refine jAlen11 C 7 (by decide +kernel : decode cX7_wordAt 6 = .ok (.arraylength, 1)) rfl t_v0 ?_
    refine jIcmp_ge C 10 16 (by decide +kernel : decode cX7_wordAt 7 = .ok (.if_icmp .ge 9, 3)) rfl rfl (fun c2 => ?_) (fun c2 => ?_)
    · have h := it1 h c2
      refine jB C [(.iconst (-1), 1, (-1))] 17 [(0, .ref (b + v0)), (1, .int v1)] [.int (-1)] (by decide +kernel) rfl rfl ?_
      exact jRetI C (by decide +kernel : decode cX7_wordAt 17 = .ok (.ireturn, 1)) (Nat.le_refl _) (Nat.le_refl _) ⟨rfl, h⟩
    · have h := it2 h c2
      refine jB C [(.aload_n 0, 1, 0), (.iload_n 1, 1, 0)] 12 [(0, .ref (b + v0)), (1, .int v1)] [.int v1, .ref (b + v0)] (by decide +kernel) rfl rfl ?_
      obtain ⟨y3, h⟩ := h
      refine jIald C 13 (by decide +kernel : decode cX7_wordAt 12 = .ok (.iaload, 1)) rfl t_v0 y3 ?_
      refine jGoto C 17 (by decide +kernel : decode cX7_wordAt 13 = .ok (.goto 4, 3)) rfl ?_
      exact jRetI C (by decide +kernel : decode cX7_wordAt 17 = .ok (.ireturn, 1)) (Nat.le_refl _) (Nat.le_refl _) ⟨rfl, h⟩
theorem ok_X7_wordAt {G : Gm} {v0 : Nat} {v1 : Int32} {S : St} {Q : Int32 → St → Prop} (t_v0 : ok G 11 v0) (h : f_X7_wordAt G v0 v1 Q S) : MT yX7_wordAt cX7_wordAt 2 (some .int) rm_X7_wordAt 0 0 (fun b => [.ref (b + v0), .int v1]) G S (QI (fun r G1 S1 => G1 = G ∧ Q r S1)) := MT.ofJ (by decide) (fun b => [(0, .ref (b + v0)), (1, .int v1)]) (fun b => rfl) (fun b => Nat.le_of_ble_eq_true rfl) (fun l b D cy p e s m below meth c C hE hn => j_X7_wordAt C hE t_v0 h)
theorem hd_X7_wordAt : yX7_wordAt.cls ≠ "java/lang/invoke/MethodHandle" ∧ yX7_wordAt.cls ≠ "java/lang/invoke/VarHandle" ∧ (parseMethodDescriptor yX7_wordAt.desc).map (fun d => d.parameters.length) = some 2 := by decide +kernel
def f_X7_joined (G : Gm) (v0 : Int32) (v1 : Int64) (v3 : Int64) (Q : Int64 → St → Prop) (S : St) : Prop :=
  (if v0 = 2 then Q (v1 + v3) S else (if v0 = 3 then Q (v1 - v3) S else (if v0 = 4 then Q (v1 * v3) S else (if v0 = 5 then (if (lg_cmp v3 0) = 0 then Q 1000000001 S else (¬ v3 = 0 ∧ Q (v1 / v3) S)) else (if v0 = 6 then (if (lg_cmp v3 0) = 0 then Q 1000000001 S else (¬ v3 = 0 ∧ Q (v1 - v1 / v3 * v3) S)) else (if v0 = 7 then (if 0 ≤ (lg_cmp v1 v3) then Q 0 S else Q 1 S) else (if v0 = 8 then (if (lg_cmp v1 v3) ≤ 0 then Q 0 S else Q 1 S) else (if (lg_cmp v1 v3) = 0 then Q 1 S else Q 0 S))))))))
abbrev rm_X7_joined : Room := { frames := 0, cells := 0, slots := 0, locals := 0 }
set_option maxHeartbeats 4000000 in
set_option maxRecDepth 100000 in
theorem j_X7_joined {p : Program} {l : Launch} {e : Env} {s : State} {m : MethodId} {args : Array Value} {below : List Frame} {meth : Method} {c : Code} {b : Nat} {D : va_G} {cy : Nat → ClassId} {G : Gm} {v0 : Int32} {v1 : Int64} {v3 : Int64} {S : St} {Q : Int64 → St → Prop} (C : CX p s m args meth c b D cy cX7_joined RX7 5 (some .long)) (hE : s.heap.size + 0 ≤ b + G.2.2) (h : f_X7_joined G v0 v1 v3 Q S) : J p l e rm_X7_joined s m args below meth c b D cy 5 (zL b D cy below args s G Q) 0 0 G S 0 [(0, .int v0), (1, .long v1), (3, .long v3)] [] := by
  unfold f_X7_joined at h
  refine jB C [(.iload_n 0, 1, 0)] 1 [(0, .int v0), (1, .long v1), (3, .long v3)] [.int v0] (by decide +kernel) rfl rfl ?_
  by_cases c8_0 : v0 = 2
  · have h := it1 h c8_0
    refine jTabIn C 44 2 (by decide +kernel : decode cX7_joined 1 = .ok (.tableswitch 111 2 8 #[43, 47, 51, 55, 71, 87, 99], 43)) c8_0 ⟨rfl, rfl, rfl, rfl⟩ ?_
    refine jB C [(.lload_n 1, 1, 0), (.lload_n 3, 1, 0), (.ladd, 1, 0)] 47 [(0, .int v0), (1, .long v1), (3, .long v3)] [.long (v1 + v3)] (by decide +kernel) rfl rfl ?_
    exact jRetL C (by decide +kernel : decode cX7_joined 47 = .ok (.lreturn, 1)) (Nat.le_refl _) (Nat.le_refl _) ⟨rfl, h⟩
  · have h := it2 h c8_0
    by_cases c8_1 : v0 = 3
    · have h := it1 h c8_1
      refine jTabIn C 48 3 (by decide +kernel : decode cX7_joined 1 = .ok (.tableswitch 111 2 8 #[43, 47, 51, 55, 71, 87, 99], 43)) c8_1 ⟨rfl, rfl, rfl, rfl⟩ ?_
      refine jB C [(.lload_n 1, 1, 0), (.lload_n 3, 1, 0), (.lsub, 1, 0)] 51 [(0, .int v0), (1, .long v1), (3, .long v3)] [.long (v1 - v3)] (by decide +kernel) rfl rfl ?_
      exact jRetL C (by decide +kernel : decode cX7_joined 51 = .ok (.lreturn, 1)) (Nat.le_refl _) (Nat.le_refl _) ⟨rfl, h⟩
    · have h := it2 h c8_1
      by_cases c8_2 : v0 = 4
      · have h := it1 h c8_2
        refine jTabIn C 52 4 (by decide +kernel : decode cX7_joined 1 = .ok (.tableswitch 111 2 8 #[43, 47, 51, 55, 71, 87, 99], 43)) c8_2 ⟨rfl, rfl, rfl, rfl⟩ ?_
        refine jB C [(.lload_n 1, 1, 0), (.lload_n 3, 1, 0), (.lmul, 1, 0)] 55 [(0, .int v0), (1, .long v1), (3, .long v3)] [.long (v1 * v3)] (by decide +kernel) rfl rfl ?_
        exact jRetL C (by decide +kernel : decode cX7_joined 55 = .ok (.lreturn, 1)) (Nat.le_refl _) (Nat.le_refl _) ⟨rfl, h⟩
      · have h := it2 h c8_2
        by_cases c8_3 : v0 = 5
        · have h := it1 h c8_3
          refine jTabIn C 56 5 (by decide +kernel : decode cX7_joined 1 = .ok (.tableswitch 111 2 8 #[43, 47, 51, 55, 71, 87, 99], 43)) c8_3 ⟨rfl, rfl, rfl, rfl⟩ ?_
          refine jB C [(.lload_n 3, 1, 0), (.lconst 0, 1, 0), (.lcmp, 1, 0)] 59 [(0, .int v0), (1, .long v1), (3, .long v3)] [.int (lg_cmp v3 0)] (by decide +kernel) rfl rfl ?_
          refine jIf_ne C 62 68 (by decide +kernel : decode cX7_joined 59 = .ok (.ifCond .ne 9, 3)) rfl rfl (fun c1 => ?_) (fun c1 => ?_)
          · have h := it2 h c1
            refine jB C [(.lload_n 1, 1, 0), (.lload_n 3, 1, 0)] 70 [(0, .int v0), (1, .long v1), (3, .long v3)] [.long v3, .long v1] (by decide +kernel) rfl rfl ?_
            obtain ⟨y2, h⟩ := h
            refine jLdiv C 71 (by decide +kernel : decode cX7_joined 70 = .ok (.ldiv, 1)) rfl y2 ?_
            exact jRetL C (by decide +kernel : decode cX7_joined 71 = .ok (.lreturn, 1)) (Nat.le_refl _) (Nat.le_refl _) ⟨rfl, h⟩
          · have h := it1 h c1
            refine jLdc2 C 65 (by decide +kernel : decode cX7_joined 62 = .ok (.ldc2_w 34, 3)) rfl wd_481 ?_
            refine jGoto C 71 (by decide +kernel : decode cX7_joined 65 = .ok (.goto 6, 3)) rfl ?_
            exact jRetL C (by decide +kernel : decode cX7_joined 71 = .ok (.lreturn, 1)) (Nat.le_refl _) (Nat.le_refl _) ⟨rfl, h⟩
        · have h := it2 h c8_3
          by_cases c8_4 : v0 = 6
          · have h := it1 h c8_4
            refine jTabIn C 72 6 (by decide +kernel : decode cX7_joined 1 = .ok (.tableswitch 111 2 8 #[43, 47, 51, 55, 71, 87, 99], 43)) c8_4 ⟨rfl, rfl, rfl, rfl⟩ ?_
            refine jB C [(.lload_n 3, 1, 0), (.lconst 0, 1, 0), (.lcmp, 1, 0)] 75 [(0, .int v0), (1, .long v1), (3, .long v3)] [.int (lg_cmp v3 0)] (by decide +kernel) rfl rfl ?_
            refine jIf_ne C 78 84 (by decide +kernel : decode cX7_joined 75 = .ok (.ifCond .ne 9, 3)) rfl rfl (fun c3 => ?_) (fun c3 => ?_)
            · have h := it2 h c3
              refine jB C [(.lload_n 1, 1, 0), (.lload_n 3, 1, 0)] 86 [(0, .int v0), (1, .long v1), (3, .long v3)] [.long v3, .long v1] (by decide +kernel) rfl rfl ?_
              obtain ⟨y4, h⟩ := h
              refine jLrem C 87 (by decide +kernel : decode cX7_joined 86 = .ok (.lrem, 1)) rfl y4 ?_
              exact jRetL C (by decide +kernel : decode cX7_joined 87 = .ok (.lreturn, 1)) (Nat.le_refl _) (Nat.le_refl _) ⟨rfl, h⟩
            · have h := it1 h c3
              refine jLdc2 C 81 (by decide +kernel : decode cX7_joined 78 = .ok (.ldc2_w 34, 3)) rfl wd_481 ?_
              refine jGoto C 87 (by decide +kernel : decode cX7_joined 81 = .ok (.goto 6, 3)) rfl ?_
              exact jRetL C (by decide +kernel : decode cX7_joined 87 = .ok (.lreturn, 1)) (Nat.le_refl _) (Nat.le_refl _) ⟨rfl, h⟩
          · have h := it2 h c8_4
            by_cases c8_5 : v0 = 7
            · have h := it1 h c8_5
              refine jTabIn C 88 7 (by decide +kernel : decode cX7_joined 1 = .ok (.tableswitch 111 2 8 #[43, 47, 51, 55, 71, 87, 99], 43)) c8_5 ⟨rfl, rfl, rfl, rfl⟩ ?_
              refine jB C [(.lload_n 1, 1, 0), (.lload_n 3, 1, 0), (.lcmp, 1, 0)] 91 [(0, .int v0), (1, .long v1), (3, .long v3)] [.int (lg_cmp v1 v3)] (by decide +kernel) rfl rfl ?_
              refine jIf_ge C 94 98 (by decide +kernel : decode cX7_joined 91 = .ok (.ifCond .ge 7, 3)) rfl rfl (fun c5 => ?_) (fun c5 => ?_)
              · have h := it1 h c5
                refine jB C [(.lconst 0, 1, 0)] 99 [(0, .int v0), (1, .long v1), (3, .long v3)] [.long 0] (by decide +kernel) rfl rfl ?_
                exact jRetL C (by decide +kernel : decode cX7_joined 99 = .ok (.lreturn, 1)) (Nat.le_refl _) (Nat.le_refl _) ⟨rfl, h⟩
              · have h := it2 h c5
                refine jB C [(.lconst 1, 1, 0)] 95 [(0, .int v0), (1, .long v1), (3, .long v3)] [.long 1] (by decide +kernel) rfl rfl ?_
                refine jGoto C 99 (by decide +kernel : decode cX7_joined 95 = .ok (.goto 4, 3)) rfl ?_
                exact jRetL C (by decide +kernel : decode cX7_joined 99 = .ok (.lreturn, 1)) (Nat.le_refl _) (Nat.le_refl _) ⟨rfl, h⟩
            · have h := it2 h c8_5
              by_cases c8_6 : v0 = 8
              · have h := it1 h c8_6
                refine jTabIn C 100 8 (by decide +kernel : decode cX7_joined 1 = .ok (.tableswitch 111 2 8 #[43, 47, 51, 55, 71, 87, 99], 43)) c8_6 ⟨rfl, rfl, rfl, rfl⟩ ?_
                refine jB C [(.lload_n 1, 1, 0), (.lload_n 3, 1, 0), (.lcmp, 1, 0)] 103 [(0, .int v0), (1, .long v1), (3, .long v3)] [.int (lg_cmp v1 v3)] (by decide +kernel) rfl rfl ?_
                refine jIf_le C 106 110 (by decide +kernel : decode cX7_joined 103 = .ok (.ifCond .le 7, 3)) rfl rfl (fun c6 => ?_) (fun c6 => ?_)
                · have h := it1 h c6
                  refine jB C [(.lconst 0, 1, 0)] 111 [(0, .int v0), (1, .long v1), (3, .long v3)] [.long 0] (by decide +kernel) rfl rfl ?_
                  exact jRetL C (by decide +kernel : decode cX7_joined 111 = .ok (.lreturn, 1)) (Nat.le_refl _) (Nat.le_refl _) ⟨rfl, h⟩
                · have h := it2 h c6
                  refine jB C [(.lconst 1, 1, 0)] 107 [(0, .int v0), (1, .long v1), (3, .long v3)] [.long 1] (by decide +kernel) rfl rfl ?_
                  refine jGoto C 111 (by decide +kernel : decode cX7_joined 107 = .ok (.goto 4, 3)) rfl ?_
                  exact jRetL C (by decide +kernel : decode cX7_joined 111 = .ok (.lreturn, 1)) (Nat.le_refl _) (Nat.le_refl _) ⟨rfl, h⟩
              · have h := it2 h c8_6
                refine jTabOut C 112 (by decide +kernel : decode cX7_joined 1 = .ok (.tableswitch 111 2 8 #[43, 47, 51, 55, 71, 87, 99], 43)) rfl (by have := lv_neT c8_0 (a := 2) rfl; have := lv_neT c8_1 (a := 3) rfl; have := lv_neT c8_2 (a := 4) rfl; have := lv_neT c8_3 (a := 5) rfl; have := lv_neT c8_4 (a := 6) rfl; have := lv_neT c8_5 (a := 7) rfl; have := lv_neT c8_6 (a := 8) rfl; omega) ?_
                refine jB C [(.lload_n 1, 1, 0), (.lload_n 3, 1, 0), (.lcmp, 1, 0)] 115 [(0, .int v0), (1, .long v1), (3, .long v3)] [.int (lg_cmp v1 v3)] (by decide +kernel) rfl rfl ?_
                refine jIf_ne C 118 122 (by decide +kernel : decode cX7_joined 115 = .ok (.ifCond .ne 7, 3)) rfl rfl (fun c7 => ?_) (fun c7 => ?_)
                · have h := it2 h c7
                  refine jB C [(.lconst 0, 1, 0)] 123 [(0, .int v0), (1, .long v1), (3, .long v3)] [.long 0] (by decide +kernel) rfl rfl ?_
                  exact jRetL C (by decide +kernel : decode cX7_joined 123 = .ok (.lreturn, 1)) (Nat.le_refl _) (Nat.le_refl _) ⟨rfl, h⟩
                · have h := it1 h c7
                  refine jB C [(.lconst 1, 1, 0)] 119 [(0, .int v0), (1, .long v1), (3, .long v3)] [.long 1] (by decide +kernel) rfl rfl ?_
                  refine jGoto C 123 (by decide +kernel : decode cX7_joined 119 = .ok (.goto 4, 3)) rfl ?_
                  exact jRetL C (by decide +kernel : decode cX7_joined 123 = .ok (.lreturn, 1)) (Nat.le_refl _) (Nat.le_refl _) ⟨rfl, h⟩
theorem ok_X7_joined {G : Gm} {v0 : Int32} {v1 : Int64} {v3 : Int64} {S : St} {Q : Int64 → St → Prop} (h : f_X7_joined G v0 v1 v3 Q S) : MT yX7_joined cX7_joined 5 (some .long) rm_X7_joined 0 0 (fun b => [.int v0, .long v1, .long v3]) G S (QL (fun r G1 S1 => G1 = G ∧ Q r S1)) := MT.ofJ (by decide) (fun b => [(0, .int v0), (1, .long v1), (3, .long v3)]) (fun b => rfl) (fun b => Nat.le_of_ble_eq_true rfl) (fun l b D cy p e s m below meth c C hE hn => j_X7_joined C hE h)
theorem hd_X7_joined : yX7_joined.cls ≠ "java/lang/invoke/MethodHandle" ∧ yX7_joined.cls ≠ "java/lang/invoke/VarHandle" ∧ (parseMethodDescriptor yX7_joined.desc).map (fun d => d.parameters.length) = some 3 := by decide +kernel
def f_X7_worth_325 (G : Gm) (v0 : Nat) (v6 : Int32) (Q : Int32 → St → Prop) (S : St) : Prop :=
  (if v6 = 1 then (∃ a2, S.2.2 v0 0 = some a2 ∧ (vp_in 0 (G.2.1 a2) ∧ Q ((S.2.1 a2 0.toNatClampNeg).toInt32) S)) else Q (-2147483648) S)
def f_X7_worth_316 (G : Gm) (k15 : Int32 → Int32 → Int32 → St → Prop) (Q : Int32 → St → Prop) (S : St) : Prop :=
  Q (-2147483648) S
def f_X7_worth_221 (G : Gm) (k15 : Int32 → Int32 → Int32 → St → Prop) (v0 : Nat) (v3 : Int32) (v4 : Nat) (v5 : Nat) (v6 : Int32) (v8 : Int32) (v11 : Int32) (u0 : Int32) (Q : Int32 → St → Prop) (S : St) : Prop :=
  (if v11 = 0 then (∀ x2 : Int32, x2 = v6 - 1 → k15 x2 u0 (v8 + 1) S) else k15 v6 u0 (v8 + 1) S)
def f_X7_worth_207 (G : Gm) (k15 : Int32 → Int32 → Int32 → St → Prop) (v0 : Nat) (v3 : Int32) (v4 : Nat) (v5 : Nat) (v6 : Int32) (v7 : Int32) (v8 : Int32) (v10 : Int32) (u0 : Int32) (Q : Int32 → St → Prop) (S : St) : Prop :=
  (if u0 = 0 then f_X7_worth_221 G k15 v0 v3 v4 v5 v6 v8 u0 v7 Q S else f_X7_worth_221 G k15 v0 v3 v4 v5 v6 v8 u0 v10 Q S)
def f_X7_worth_197 (G : Gm) (k15 : Int32 → Int32 → Int32 → St → Prop) (v0 : Nat) (v3 : Int32) (v4 : Nat) (v5 : Nat) (v6 : Int32) (v7 : Int32) (v8 : Int32) (v10 : Int32) (u0 : Int32) (u1 : Int64) (Q : Int32 → St → Prop) (S : St) : Prop :=
  (if (lg_cmp u1 u0.toInt64) = 0 then f_X7_worth_207 G k15 v0 v3 v4 v5 v6 v7 v8 v10 1 Q S else f_X7_worth_207 G k15 v0 v3 v4 v5 v6 v7 v8 v10 0 Q S)
def f_X7_worth_176 (G : Gm) (k15 : Int32 → Int32 → Int32 → St → Prop) (v0 : Nat) (v3 : Int32) (v4 : Nat) (v5 : Nat) (v6 : Int32) (v7 : Int32) (v8 : Int32) (v9 : Int32) (v10 : Int32) (Q : Int32 → St → Prop) (S : St) : Prop :=
  (∃ a1, S.2.2 v0 0 = some a1 ∧ (vp_in (v6 - 1) (G.2.1 a1) ∧ (if v9 = 11 then f_X7_worth_197 G k15 v0 v3 v4 v5 v6 v7 v8 v10 1 (S.2.1 a1 (v6 - 1).toNatClampNeg) Q S else f_X7_worth_197 G k15 v0 v3 v4 v5 v6 v7 v8 v10 0 (S.2.1 a1 (v6 - 1).toNatClampNeg) Q S)))
def f_X7_worth_129 (G : Gm) (k15 : Int32 → Int32 → Int32 → St → Prop) (Q : Int32 → St → Prop) (S : St) : Prop :=
  Q (-2147483648) S
def f_X7_worth_109 (G : Gm) (k15 : Int32 → Int32 → Int32 → St → Prop) (v0 : Nat) (v3 : Int32) (v4 : Nat) (v5 : Nat) (v6 : Int32) (v7 : Int32) (v8 : Int32) (u0 : Int64) (u1 : Int32) (u2 : Nat) (Q : Int32 → St → Prop) (S : St) : Prop :=
  (vp_in u1 (G.2.1 u2) ∧ ∀ S2, S2 = uJ S u2 u1.toNatClampNeg u0 → k15 (v6 + 1) v7 (v8 + 1) S2)
def f_X7_worth_74 (G : Gm) (k15 : Int32 → Int32 → Int32 → St → Prop) (v0 : Nat) (v3 : Int32) (v4 : Nat) (v5 : Nat) (v6 : Int32) (v7 : Int32) (v8 : Int32) (v9 : Int32) (v10 : Int32) (Q : Int32 → St → Prop) (S : St) : Prop :=
  (if v6 < 32 then (∃ a2, S.2.2 v0 0 = some a2 ∧ (if v9 = 0 then f_X7_worth_109 G k15 v0 v3 v4 v5 v6 v7 v8 v10.toInt64 v6 a2 Q S else f_X7_wordAt G v4 v10 (fun r5 S4 => f_X7_worth_109 G k15 v0 v3 v4 v5 v6 v7 v8 r5.toInt64 v6 a2 Q S4) S)) else Q (-2147483648) S)
def f_X7_worth_15_n (G : Gm) (v0 : Nat) (v3 : Int32) (v4 : Nat) (v5 : Nat) (Q : Int32 → St → Prop) : Nat → Int32 → Int32 → Int32 → St → Prop
  | 0, _, _, _, _ => False
  | n + 1, v6, v7, v8, S => (if 400 ≤ v8 then f_X7_worth_325 G v0 v6 Q S else (if v7 < 0 then f_X7_worth_325 G v0 v6 Q S else (if v3 ≤ v7 then f_X7_worth_325 G v0 v6 Q S else (if (nI (G.2.1 v5)) ≤ (v7 + 1) then f_X7_worth_325 G v0 v6 Q S else (vp_in v7 (G.2.1 v5) ∧ (∀ x6 : Int32, x6 = S.1 v5 v7.toNatClampNeg → (vp_in (v7 + 1) (G.2.1 v5) ∧ (∀ x8 : Int32, x8 = S.1 v5 (v7 + 1).toNatClampNeg → (if x6 = 0 then f_X7_worth_74 G (f_X7_worth_15_n G v0 v3 v4 v5 Q n) v0 v3 v4 v5 v6 (v7 + 2) v8 x6 x8 Q S else (if x6 = 1 then f_X7_worth_74 G (f_X7_worth_15_n G v0 v3 v4 v5 Q n) v0 v3 v4 v5 v6 (v7 + 2) v8 x6 x8 Q S else (if v6 < 1 then f_X7_worth_129 G (f_X7_worth_15_n G v0 v3 v4 v5 Q n) Q S else (if v6 ≤ 32 then (if x6 = 10 then (∃ a32, S.2.2 v0 0 = some a32 ∧ (∃ a33, S.2.2 v0 0 = some a33 ∧ (vp_in (v6 - 1) (G.2.1 a33) ∧ (vp_in (v6 - 1) (G.2.1 a32) ∧ ∀ S36, S36 = uJ S a32 (v6 - 1).toNatClampNeg (1 - (S.2.1 a33 (v6 - 1).toNatClampNeg)) → (f_X7_worth_15_n G v0 v3 v4 v5 Q n) v6 (v7 + 2) (v8 + 1) S36)))) else (if x6 = 11 then f_X7_worth_176 G (f_X7_worth_15_n G v0 v3 v4 v5 Q n) v0 v3 v4 v5 v6 (v7 + 2) v8 x6 x8 Q S else (if x6 = 12 then f_X7_worth_176 G (f_X7_worth_15_n G v0 v3 v4 v5 Q n) v0 v3 v4 v5 v6 (v7 + 2) v8 x6 x8 Q S else (if 2 ≤ v6 then (∃ a17, S.2.2 v0 0 = some a17 ∧ (∃ a18, S.2.2 v0 0 = some a18 ∧ (vp_in ((v6 + (-1)) - 1) (G.2.1 a18) ∧ (∃ a20, S.2.2 v0 0 = some a20 ∧ (vp_in (v6 + (-1)) (G.2.1 a20) ∧ f_X7_joined G x6 (S.2.1 a18 ((v6 + (-1)) - 1).toNatClampNeg) (S.2.1 a20 (v6 + (-1)).toNatClampNeg) (fun r23 S22 => (vp_in ((v6 + (-1)) - 1) (G.2.1 a17) ∧ ∀ S25, S25 = uJ S22 a17 ((v6 + (-1)) - 1).toNatClampNeg r23 → (∃ a26, S25.2.2 v0 0 = some a26 ∧ (vp_in ((v6 + (-1)) - 1) (G.2.1 a26) ∧ (if 0 < (lg_cmp (S25.2.1 a26 ((v6 + (-1)) - 1).toNatClampNeg) 1000000000) then f_X7_worth_316 G (f_X7_worth_15_n G v0 v3 v4 v5 Q n) Q S25 else (∃ a29, S25.2.2 v0 0 = some a29 ∧ (vp_in ((v6 + (-1)) - 1) (G.2.1 a29) ∧ (if 0 ≤ (lg_cmp (S25.2.1 a29 ((v6 + (-1)) - 1).toNatClampNeg) (-1000000000)) then (f_X7_worth_15_n G v0 v3 v4 v5 Q n) (v6 + (-1)) (v7 + 2) (v8 + 1) S25 else f_X7_worth_316 G (f_X7_worth_15_n G v0 v3 v4 v5 Q n) Q S25)))))))) S))))) else Q (-2147483648) S)))) else f_X7_worth_129 G (f_X7_worth_15_n G v0 v3 v4 v5 Q n) Q S))))))))))))
def f_X7_worth_15 (G : Gm) (v0 : Nat) (v3 : Int32) (v4 : Nat) (v5 : Nat) (Q : Int32 → St → Prop) (v6 : Int32) (v7 : Int32) (v8 : Int32) (S : St) : Prop := ∃ n, f_X7_worth_15_n G v0 v3 v4 v5 Q n v6 v7 v8 S
def f_X7_worth (G : Gm) (v0 : Nat) (v1 : Nat) (v2 : Int32) (v3 : Int32) (v4 : Nat) (Q : Int32 → St → Prop) (S : St) : Prop :=
  (∃ a1, S.2.2 v1 4 = some a1 ∧ f_X7_worth_15 G v0 v3 v4 a1 Q 0 v2 0 S)
abbrev rm_X7_worth : Room := { frames := 1, cells := 0, slots := 0, locals := 24 }
set_option maxHeartbeats 4000000 in
set_option maxRecDepth 100000 in
theorem j_X7_worth_325 {p : Program} {l : Launch} {e : Env} {s : State} {m : MethodId} {args : Array Value} {below : List Frame} {meth : Method} {c : Code} {b : Nat} {D : va_G} {cy : Nat → ClassId} {G : Gm} {v0 : Nat} {v6 : Int32} {S : St} {Q : Int32 → St → Prop} (C : CX p s m args meth c b D cy cX7_worth RX7 12 (some .int)) (hE : s.heap.size + 0 ≤ b + G.2.2) (t_v0 : ok G 6 v0) (h : f_X7_worth_325 G v0 v6 Q S) : J p l e rm_X7_worth s m args below meth c b D cy 12 (zI b D cy below args s G Q) 0 0 G S 325 [(0, .ref (b + v0)), (6, .int v6)] [] := by
  unfold f_X7_worth_325 at h
  refine jB C [(.iload 6, 2, 0), (.iconst 1, 1, 1)] 328 [(0, .ref (b + v0)), (6, .int v6)] [.int 1, .int v6] (by decide +kernel) rfl rfl ?_
  refine jIcmp_ne C 331 341 (by decide +kernel : decode cX7_worth 328 = .ok (.if_icmp .ne 13, 3)) rfl rfl (fun c1 => ?_) (fun c1 => ?_)
  · have h := it2 h c1
    refine jLdc C 343 (by decide +kernel : decode cX7_worth 341 = .ok (.ldc 21, 2)) rfl wd_474 ?_
    exact jRetI C (by decide +kernel : decode cX7_worth 343 = .ok (.ireturn, 1)) (Nat.le_refl _) (Nat.le_refl _) ⟨rfl, h⟩
  · have h := it1 h c1
    refine jB C [(.aload_n 0, 1, 0)] 332 [(0, .ref (b + v0)), (6, .int v6)] [.ref (b + v0)] (by decide +kernel) rfl rfl ?_
    obtain ⟨a2, e_a2, h⟩ := h
    refine jGetR C 335 (by decide +kernel : decode cX7_worth 332 = .ok (.getfield 11, 3)) rfl t_v0 kX7 0 (by decide) rfl rfl (by decide) wd_112 e_a2 rfl (fun t_a2 => ?_)
    refine jB C [(.iconst 0, 1, 0)] 336 [(0, .ref (b + v0)), (6, .int v6)] [.int 0, .ref (b + a2)] (by decide +kernel) rfl rfl ?_
    obtain ⟨y3, h⟩ := h
    refine jLald C 337 (by decide +kernel : decode cX7_worth 336 = .ok (.laload, 1)) rfl t_a2 y3 ?_
    refine jB C [(.l2i, 1, 0)] 338 [(0, .ref (b + v0)), (6, .int v6)] [.int ((S.2.1 a2 0.toNatClampNeg).toInt32)] (by decide +kernel) rfl rfl ?_
    refine jGoto C 343 (by decide +kernel : decode cX7_worth 338 = .ok (.goto 5, 3)) rfl ?_
    exact jRetI C (by decide +kernel : decode cX7_worth 343 = .ok (.ireturn, 1)) (Nat.le_refl _) (Nat.le_refl _) ⟨rfl, h⟩
set_option maxHeartbeats 4000000 in
set_option maxRecDepth 100000 in
theorem j_X7_worth_316 {p : Program} {l : Launch} {e : Env} {s : State} {m : MethodId} {args : Array Value} {below : List Frame} {meth : Method} {c : Code} {b : Nat} {D : va_G} {cy : Nat → ClassId} {G : Gm} {k15 : Int32 → Int32 → Int32 → St → Prop} {v0 : Nat} {v3 : Int32} {v4 : Nat} {v5 : Nat} {S : St} {Q : Int32 → St → Prop} (C : CX p s m args meth c b D cy cX7_worth RX7 12 (some .int)) (hE : s.heap.size + 0 ≤ b + G.2.2) (hk15 : ∀ v6' v7' v8' S, k15 v6' v7' v8' S → J p l e rm_X7_worth s m args below meth c b D cy 12 (zI b D cy below args s G Q) 0 0 G S 15 [(0, .ref (b + v0)), (3, .int v3), (4, .ref (b + v4)), (5, .ref (b + v5)), (6, .int (v6')), (7, .int (v7')), (8, .int (v8'))] []) (h : f_X7_worth_316 G k15 Q S) : J p l e rm_X7_worth s m args below meth c b D cy 12 (zI b D cy below args s G Q) 0 0 G S 316 [] [] := by
  unfold f_X7_worth_316 at h
  refine jLdc C 318 (by decide +kernel : decode cX7_worth 316 = .ok (.ldc 21, 2)) rfl wd_474 ?_
  exact jRetI C (by decide +kernel : decode cX7_worth 318 = .ok (.ireturn, 1)) (Nat.le_refl _) (Nat.le_refl _) ⟨rfl, h⟩
set_option maxHeartbeats 4000000 in
set_option maxRecDepth 100000 in
theorem j_X7_worth_221 {p : Program} {l : Launch} {e : Env} {s : State} {m : MethodId} {args : Array Value} {below : List Frame} {meth : Method} {c : Code} {b : Nat} {D : va_G} {cy : Nat → ClassId} {G : Gm} {k15 : Int32 → Int32 → Int32 → St → Prop} {v0 : Nat} {v3 : Int32} {v4 : Nat} {v5 : Nat} {v6 : Int32} {v8 : Int32} {v11 : Int32} {u0 : Int32} {S : St} {Q : Int32 → St → Prop} (C : CX p s m args meth c b D cy cX7_worth RX7 12 (some .int)) (hE : s.heap.size + 0 ≤ b + G.2.2) (t_v0 : ok G 6 v0) (t_v4 : ok G 11 v4) (t_v5 : ok G 11 v5) (hk15 : ∀ v6' v7' v8' S, k15 v6' v7' v8' S → J p l e rm_X7_worth s m args below meth c b D cy 12 (zI b D cy below args s G Q) 0 0 G S 15 [(0, .ref (b + v0)), (3, .int v3), (4, .ref (b + v4)), (5, .ref (b + v5)), (6, .int (v6')), (7, .int (v7')), (8, .int (v8'))] []) (h : f_X7_worth_221 G k15 v0 v3 v4 v5 v6 v8 v11 u0 Q S) : J p l e rm_X7_worth s m args below meth c b D cy 12 (zI b D cy below args s G Q) 0 0 G S 221 [(0, .ref (b + v0)), (3, .int v3), (4, .ref (b + v4)), (5, .ref (b + v5)), (6, .int v6), (8, .int v8), (11, .int v11)] [.int u0] := by
  unfold f_X7_worth_221 at h
  refine jB C [(.istore 7, 2, 0), (.iload 11, 2, 0)] 225 [(7, .int u0), (0, .ref (b + v0)), (3, .int v3), (4, .ref (b + v4)), (5, .ref (b + v5)), (6, .int v6), (8, .int v8), (11, .int v11)] [.int v11] (by decide +kernel) rfl rfl ?_
  refine jIf_eq C 228 233 (by decide +kernel : decode cX7_worth 225 = .ok (.ifCond .eq 8, 3)) rfl rfl (fun c1 => ?_) (fun c1 => ?_)
  · have h := it1 h c1
    refine jB C [(.iload 6, 2, 0), (.iconst 1, 1, 1), (.isub, 1, 0)] 237 [(7, .int u0), (0, .ref (b + v0)), (3, .int v3), (4, .ref (b + v4)), (5, .ref (b + v5)), (6, .int v6), (8, .int v8), (11, .int v11)] [.int (v6 - 1)] (by decide +kernel) rfl rfl ?_
    refine jTopI (fun x2 e_x2 => ?_)
    have h := h x2 e_x2
    refine jB C [(.istore 6, 2, 0)] 239 [(6, .int x2), (7, .int u0), (0, .ref (b + v0)), (3, .int v3), (4, .ref (b + v4)), (5, .ref (b + v5)), (8, .int v8), (11, .int v11)] [] (by decide +kernel) rfl rfl ?_
    refine jGoto C 319 (by decide +kernel : decode cX7_worth 239 = .ok (.goto 80, 3)) rfl ?_
    refine jB C [(.iinc 8 1, 3, 1)] 322 [(8, .int (v8 + 1)), (6, .int x2), (7, .int u0), (0, .ref (b + v0)), (3, .int v3), (4, .ref (b + v4)), (5, .ref (b + v5)), (11, .int v11)] [] (by decide +kernel) rfl rfl ?_
    refine jGoto C 15 (by decide +kernel : decode cX7_worth 322 = .ok (.goto (-307), 3)) rfl ?_
    refine jSub [3, 4, 5, 6, 1, 2, 0] rfl ?_
    exact hk15 x2 u0 (v8 + 1) S h
  · have h := it2 h c1
    refine jB C [(.iload 6, 2, 0)] 230 [(7, .int u0), (0, .ref (b + v0)), (3, .int v3), (4, .ref (b + v4)), (5, .ref (b + v5)), (6, .int v6), (8, .int v8), (11, .int v11)] [.int v6] (by decide +kernel) rfl rfl ?_
    refine jGoto C 237 (by decide +kernel : decode cX7_worth 230 = .ok (.goto 7, 3)) rfl ?_
    refine jB C [(.istore 6, 2, 0)] 239 [(6, .int v6), (7, .int u0), (0, .ref (b + v0)), (3, .int v3), (4, .ref (b + v4)), (5, .ref (b + v5)), (8, .int v8), (11, .int v11)] [] (by decide +kernel) rfl rfl ?_
    refine jGoto C 319 (by decide +kernel : decode cX7_worth 239 = .ok (.goto 80, 3)) rfl ?_
    refine jB C [(.iinc 8 1, 3, 1)] 322 [(8, .int (v8 + 1)), (6, .int v6), (7, .int u0), (0, .ref (b + v0)), (3, .int v3), (4, .ref (b + v4)), (5, .ref (b + v5)), (11, .int v11)] [] (by decide +kernel) rfl rfl ?_
    refine jGoto C 15 (by decide +kernel : decode cX7_worth 322 = .ok (.goto (-307), 3)) rfl ?_
    refine jSub [3, 4, 5, 6, 1, 2, 0] rfl ?_
    exact hk15 v6 u0 (v8 + 1) S h
set_option maxHeartbeats 4000000 in
set_option maxRecDepth 100000 in
theorem j_X7_worth_207 {p : Program} {l : Launch} {e : Env} {s : State} {m : MethodId} {args : Array Value} {below : List Frame} {meth : Method} {c : Code} {b : Nat} {D : va_G} {cy : Nat → ClassId} {G : Gm} {k15 : Int32 → Int32 → Int32 → St → Prop} {v0 : Nat} {v3 : Int32} {v4 : Nat} {v5 : Nat} {v6 : Int32} {v7 : Int32} {v8 : Int32} {v10 : Int32} {u0 : Int32} {S : St} {Q : Int32 → St → Prop} (C : CX p s m args meth c b D cy cX7_worth RX7 12 (some .int)) (hE : s.heap.size + 0 ≤ b + G.2.2) (t_v0 : ok G 6 v0) (t_v4 : ok G 11 v4) (t_v5 : ok G 11 v5) (hk15 : ∀ v6' v7' v8' S, k15 v6' v7' v8' S → J p l e rm_X7_worth s m args below meth c b D cy 12 (zI b D cy below args s G Q) 0 0 G S 15 [(0, .ref (b + v0)), (3, .int v3), (4, .ref (b + v4)), (5, .ref (b + v5)), (6, .int (v6')), (7, .int (v7')), (8, .int (v8'))] []) (h : f_X7_worth_207 G k15 v0 v3 v4 v5 v6 v7 v8 v10 u0 Q S) : J p l e rm_X7_worth s m args below meth c b D cy 12 (zI b D cy below args s G Q) 0 0 G S 207 [(0, .ref (b + v0)), (3, .int v3), (4, .ref (b + v4)), (5, .ref (b + v5)), (6, .int v6), (7, .int v7), (8, .int v8), (10, .int v10)] [.int u0] := by
  unfold f_X7_worth_207 at h
  refine jB C [(.istore 11, 2, 0), (.iload 11, 2, 0)] 211 [(11, .int u0), (0, .ref (b + v0)), (3, .int v3), (4, .ref (b + v4)), (5, .ref (b + v5)), (6, .int v6), (7, .int v7), (8, .int v8), (10, .int v10)] [.int u0] (by decide +kernel) rfl rfl ?_
  refine jIf_eq C 214 219 (by decide +kernel : decode cX7_worth 211 = .ok (.ifCond .eq 8, 3)) rfl rfl (fun c1 => ?_) (fun c1 => ?_)
  · have h := it1 h c1
    refine jB C [(.iload 7, 2, 0)] 221 [(11, .int u0), (0, .ref (b + v0)), (3, .int v3), (4, .ref (b + v4)), (5, .ref (b + v5)), (6, .int v6), (7, .int v7), (8, .int v8), (10, .int v10)] [.int v7] (by decide +kernel) rfl rfl ?_
    refine jSub [1, 2, 3, 4, 5, 7, 0] rfl ?_
    exact j_X7_worth_221 C hE t_v0 t_v4 t_v5 hk15 h
  · have h := it2 h c1
    refine jB C [(.iload 10, 2, 0)] 216 [(11, .int u0), (0, .ref (b + v0)), (3, .int v3), (4, .ref (b + v4)), (5, .ref (b + v5)), (6, .int v6), (7, .int v7), (8, .int v8), (10, .int v10)] [.int v10] (by decide +kernel) rfl rfl ?_
    refine jGoto C 221 (by decide +kernel : decode cX7_worth 216 = .ok (.goto 5, 3)) rfl ?_
    refine jSub [1, 2, 3, 4, 5, 7, 0] rfl ?_
    exact j_X7_worth_221 C hE t_v0 t_v4 t_v5 hk15 h
set_option maxHeartbeats 4000000 in
set_option maxRecDepth 100000 in
theorem j_X7_worth_197 {p : Program} {l : Launch} {e : Env} {s : State} {m : MethodId} {args : Array Value} {below : List Frame} {meth : Method} {c : Code} {b : Nat} {D : va_G} {cy : Nat → ClassId} {G : Gm} {k15 : Int32 → Int32 → Int32 → St → Prop} {v0 : Nat} {v3 : Int32} {v4 : Nat} {v5 : Nat} {v6 : Int32} {v7 : Int32} {v8 : Int32} {v10 : Int32} {u0 : Int32} {u1 : Int64} {S : St} {Q : Int32 → St → Prop} (C : CX p s m args meth c b D cy cX7_worth RX7 12 (some .int)) (hE : s.heap.size + 0 ≤ b + G.2.2) (t_v0 : ok G 6 v0) (t_v4 : ok G 11 v4) (t_v5 : ok G 11 v5) (hk15 : ∀ v6' v7' v8' S, k15 v6' v7' v8' S → J p l e rm_X7_worth s m args below meth c b D cy 12 (zI b D cy below args s G Q) 0 0 G S 15 [(0, .ref (b + v0)), (3, .int v3), (4, .ref (b + v4)), (5, .ref (b + v5)), (6, .int (v6')), (7, .int (v7')), (8, .int (v8'))] []) (h : f_X7_worth_197 G k15 v0 v3 v4 v5 v6 v7 v8 v10 u0 u1 Q S) : J p l e rm_X7_worth s m args below meth c b D cy 12 (zI b D cy below args s G Q) 0 0 G S 197 [(0, .ref (b + v0)), (3, .int v3), (4, .ref (b + v4)), (5, .ref (b + v5)), (6, .int v6), (7, .int v7), (8, .int v8), (10, .int v10)] [.int u0, .long u1] := by
  unfold f_X7_worth_197 at h
  refine jB C [(.i2l, 1, 0), (.lcmp, 1, 0)] 199 [(0, .ref (b + v0)), (3, .int v3), (4, .ref (b + v4)), (5, .ref (b + v5)), (6, .int v6), (7, .int v7), (8, .int v8), (10, .int v10)] [.int (lg_cmp u1 u0.toInt64)] (by decide +kernel) rfl rfl ?_
  refine jIf_ne C 202 206 (by decide +kernel : decode cX7_worth 199 = .ok (.ifCond .ne 7, 3)) rfl rfl (fun c1 => ?_) (fun c1 => ?_)
  · have h := it2 h c1
    refine jB C [(.iconst 0, 1, 0)] 207 [(0, .ref (b + v0)), (3, .int v3), (4, .ref (b + v4)), (5, .ref (b + v5)), (6, .int v6), (7, .int v7), (8, .int v8), (10, .int v10)] [.int 0] (by decide +kernel) rfl rfl ?_
    refine jSub [0, 1, 2, 3, 4, 5, 6, 7] rfl ?_
    exact j_X7_worth_207 C hE t_v0 t_v4 t_v5 hk15 h
  · have h := it1 h c1
    refine jB C [(.iconst 1, 1, 1)] 203 [(0, .ref (b + v0)), (3, .int v3), (4, .ref (b + v4)), (5, .ref (b + v5)), (6, .int v6), (7, .int v7), (8, .int v8), (10, .int v10)] [.int 1] (by decide +kernel) rfl rfl ?_
    refine jGoto C 207 (by decide +kernel : decode cX7_worth 203 = .ok (.goto 4, 3)) rfl ?_
    refine jSub [0, 1, 2, 3, 4, 5, 6, 7] rfl ?_
    exact j_X7_worth_207 C hE t_v0 t_v4 t_v5 hk15 h
set_option maxHeartbeats 4000000 in
set_option maxRecDepth 100000 in
theorem j_X7_worth_176 {p : Program} {l : Launch} {e : Env} {s : State} {m : MethodId} {args : Array Value} {below : List Frame} {meth : Method} {c : Code} {b : Nat} {D : va_G} {cy : Nat → ClassId} {G : Gm} {k15 : Int32 → Int32 → Int32 → St → Prop} {v0 : Nat} {v3 : Int32} {v4 : Nat} {v5 : Nat} {v6 : Int32} {v7 : Int32} {v8 : Int32} {v9 : Int32} {v10 : Int32} {S : St} {Q : Int32 → St → Prop} (C : CX p s m args meth c b D cy cX7_worth RX7 12 (some .int)) (hE : s.heap.size + 0 ≤ b + G.2.2) (t_v0 : ok G 6 v0) (t_v4 : ok G 11 v4) (t_v5 : ok G 11 v5) (hk15 : ∀ v6' v7' v8' S, k15 v6' v7' v8' S → J p l e rm_X7_worth s m args below meth c b D cy 12 (zI b D cy below args s G Q) 0 0 G S 15 [(0, .ref (b + v0)), (3, .int v3), (4, .ref (b + v4)), (5, .ref (b + v5)), (6, .int (v6')), (7, .int (v7')), (8, .int (v8'))] []) (h : f_X7_worth_176 G k15 v0 v3 v4 v5 v6 v7 v8 v9 v10 Q S) : J p l e rm_X7_worth s m args below meth c b D cy 12 (zI b D cy below args s G Q) 0 0 G S 176 [(0, .ref (b + v0)), (3, .int v3), (4, .ref (b + v4)), (5, .ref (b + v5)), (6, .int v6), (7, .int v7), (8, .int v8), (9, .int v9), (10, .int v10)] [] := by
  unfold f_X7_worth_176 at h
  refine jB C [(.aload_n 0, 1, 0)] 177 [(0, .ref (b + v0)), (3, .int v3), (4, .ref (b + v4)), (5, .ref (b + v5)), (6, .int v6), (7, .int v7), (8, .int v8), (9, .int v9), (10, .int v10)] [.ref (b + v0)] (by decide +kernel) rfl rfl ?_
  obtain ⟨a1, e_a1, h⟩ := h
  refine jGetR C 180 (by decide +kernel : decode cX7_worth 177 = .ok (.getfield 11, 3)) rfl t_v0 kX7 0 (by decide) rfl rfl (by decide) wd_112 e_a1 rfl (fun t_a1 => ?_)
  refine jB C [(.iload 6, 2, 0), (.iconst 1, 1, 1), (.isub, 1, 0)] 184 [(0, .ref (b + v0)), (3, .int v3), (4, .ref (b + v4)), (5, .ref (b + v5)), (6, .int v6), (7, .int v7), (8, .int v8), (9, .int v9), (10, .int v10)] [.int (v6 - 1), .ref (b + a1)] (by decide +kernel) rfl rfl ?_
  obtain ⟨y2, h⟩ := h
  refine jLald C 185 (by decide +kernel : decode cX7_worth 184 = .ok (.laload, 1)) rfl t_a1 y2 ?_
  refine jB C [(.iload 9, 2, 0), (.bipush 11, 2, 11)] 189 [(0, .ref (b + v0)), (3, .int v3), (4, .ref (b + v4)), (5, .ref (b + v5)), (6, .int v6), (7, .int v7), (8, .int v8), (9, .int v9), (10, .int v10)] [.int 11, .int v9, .long (S.2.1 a1 (v6 - 1).toNatClampNeg)] (by decide +kernel) rfl rfl ?_
  refine jIcmp_ne C 192 196 (by decide +kernel : decode cX7_worth 189 = .ok (.if_icmp .ne 7, 3)) rfl rfl (fun c3 => ?_) (fun c3 => ?_)
  · have h := it2 h c3
    refine jB C [(.iconst 0, 1, 0)] 197 [(0, .ref (b + v0)), (3, .int v3), (4, .ref (b + v4)), (5, .ref (b + v5)), (6, .int v6), (7, .int v7), (8, .int v8), (9, .int v9), (10, .int v10)] [.int 0, .long (S.2.1 a1 (v6 - 1).toNatClampNeg)] (by decide +kernel) rfl rfl ?_
    refine jSub [0, 1, 2, 3, 4, 5, 6, 8] rfl ?_
    exact j_X7_worth_197 C hE t_v0 t_v4 t_v5 hk15 h
  · have h := it1 h c3
    refine jB C [(.iconst 1, 1, 1)] 193 [(0, .ref (b + v0)), (3, .int v3), (4, .ref (b + v4)), (5, .ref (b + v5)), (6, .int v6), (7, .int v7), (8, .int v8), (9, .int v9), (10, .int v10)] [.int 1, .long (S.2.1 a1 (v6 - 1).toNatClampNeg)] (by decide +kernel) rfl rfl ?_
    refine jGoto C 197 (by decide +kernel : decode cX7_worth 193 = .ok (.goto 4, 3)) rfl ?_
    refine jSub [0, 1, 2, 3, 4, 5, 6, 8] rfl ?_
    exact j_X7_worth_197 C hE t_v0 t_v4 t_v5 hk15 h
set_option maxHeartbeats 4000000 in
set_option maxRecDepth 100000 in
theorem j_X7_worth_129 {p : Program} {l : Launch} {e : Env} {s : State} {m : MethodId} {args : Array Value} {below : List Frame} {meth : Method} {c : Code} {b : Nat} {D : va_G} {cy : Nat → ClassId} {G : Gm} {k15 : Int32 → Int32 → Int32 → St → Prop} {v0 : Nat} {v3 : Int32} {v4 : Nat} {v5 : Nat} {S : St} {Q : Int32 → St → Prop} (C : CX p s m args meth c b D cy cX7_worth RX7 12 (some .int)) (hE : s.heap.size + 0 ≤ b + G.2.2) (hk15 : ∀ v6' v7' v8' S, k15 v6' v7' v8' S → J p l e rm_X7_worth s m args below meth c b D cy 12 (zI b D cy below args s G Q) 0 0 G S 15 [(0, .ref (b + v0)), (3, .int v3), (4, .ref (b + v4)), (5, .ref (b + v5)), (6, .int (v6')), (7, .int (v7')), (8, .int (v8'))] []) (h : f_X7_worth_129 G k15 Q S) : J p l e rm_X7_worth s m args below meth c b D cy 12 (zI b D cy below args s G Q) 0 0 G S 129 [] [] := by
  unfold f_X7_worth_129 at h
  refine jLdc C 131 (by decide +kernel : decode cX7_worth 129 = .ok (.ldc 21, 2)) rfl wd_474 ?_
  exact jRetI C (by decide +kernel : decode cX7_worth 131 = .ok (.ireturn, 1)) (Nat.le_refl _) (Nat.le_refl _) ⟨rfl, h⟩
set_option maxHeartbeats 4000000 in
set_option maxRecDepth 100000 in
theorem j_X7_worth_109 {p : Program} {l : Launch} {e : Env} {s : State} {m : MethodId} {args : Array Value} {below : List Frame} {meth : Method} {c : Code} {b : Nat} {D : va_G} {cy : Nat → ClassId} {G : Gm} {k15 : Int32 → Int32 → Int32 → St → Prop} {v0 : Nat} {v3 : Int32} {v4 : Nat} {v5 : Nat} {v6 : Int32} {v7 : Int32} {v8 : Int32} {u0 : Int64} {u1 : Int32} {u2 : Nat} {S : St} {Q : Int32 → St → Prop} (C : CX p s m args meth c b D cy cX7_worth RX7 12 (some .int)) (hE : s.heap.size + 0 ≤ b + G.2.2) (t_v0 : ok G 6 v0) (t_v4 : ok G 11 v4) (t_v5 : ok G 11 v5) (t_u2 : ok G 12 u2) (hk15 : ∀ v6' v7' v8' S, k15 v6' v7' v8' S → J p l e rm_X7_worth s m args below meth c b D cy 12 (zI b D cy below args s G Q) 0 0 G S 15 [(0, .ref (b + v0)), (3, .int v3), (4, .ref (b + v4)), (5, .ref (b + v5)), (6, .int (v6')), (7, .int (v7')), (8, .int (v8'))] []) (h : f_X7_worth_109 G k15 v0 v3 v4 v5 v6 v7 v8 u0 u1 u2 Q S) : J p l e rm_X7_worth s m args below meth c b D cy 12 (zI b D cy below args s G Q) 0 0 G S 109 [(0, .ref (b + v0)), (3, .int v3), (4, .ref (b + v4)), (5, .ref (b + v5)), (6, .int v6), (7, .int v7), (8, .int v8)] [.long u0, .int u1, .ref (b + u2)] := by
  unfold f_X7_worth_109 at h
  obtain ⟨y1, h⟩ := h
  refine jLast C 110 (by decide +kernel : decode cX7_worth 109 = .ok (.lastore, 1)) rfl hE t_u2 y1 ?_
  refine jTopS (fun S2 e_S2 => ?_)
  have h := h S2 e_S2
  refine jB C [(.iinc 6 1, 3, 1)] 113 [(6, .int (v6 + 1)), (0, .ref (b + v0)), (3, .int v3), (4, .ref (b + v4)), (5, .ref (b + v5)), (7, .int v7), (8, .int v8)] [] (by decide +kernel) rfl rfl ?_
  refine jGoto C 319 (by decide +kernel : decode cX7_worth 113 = .ok (.goto 206, 3)) rfl ?_
  refine jB C [(.iinc 8 1, 3, 1)] 322 [(8, .int (v8 + 1)), (6, .int (v6 + 1)), (0, .ref (b + v0)), (3, .int v3), (4, .ref (b + v4)), (5, .ref (b + v5)), (7, .int v7)] [] (by decide +kernel) rfl rfl ?_
  refine jGoto C 15 (by decide +kernel : decode cX7_worth 322 = .ok (.goto (-307), 3)) rfl ?_
  refine jSub [2, 3, 4, 5, 1, 6, 0] rfl ?_
  exact hk15 (v6 + 1) v7 (v8 + 1) S2 h
set_option maxHeartbeats 4000000 in
set_option maxRecDepth 100000 in
theorem j_X7_worth_74 {p : Program} {l : Launch} {e : Env} {s : State} {m : MethodId} {args : Array Value} {below : List Frame} {meth : Method} {c : Code} {b : Nat} {D : va_G} {cy : Nat → ClassId} {G : Gm} {k15 : Int32 → Int32 → Int32 → St → Prop} {v0 : Nat} {v3 : Int32} {v4 : Nat} {v5 : Nat} {v6 : Int32} {v7 : Int32} {v8 : Int32} {v9 : Int32} {v10 : Int32} {S : St} {Q : Int32 → St → Prop} (C : CX p s m args meth c b D cy cX7_worth RX7 12 (some .int)) (hE : s.heap.size + 0 ≤ b + G.2.2) (t_v0 : ok G 6 v0) (t_v4 : ok G 11 v4) (t_v5 : ok G 11 v5) (hk15 : ∀ v6' v7' v8' S, k15 v6' v7' v8' S → J p l e rm_X7_worth s m args below meth c b D cy 12 (zI b D cy below args s G Q) 0 0 G S 15 [(0, .ref (b + v0)), (3, .int v3), (4, .ref (b + v4)), (5, .ref (b + v5)), (6, .int (v6')), (7, .int (v7')), (8, .int (v8'))] []) (h : f_X7_worth_74 G k15 v0 v3 v4 v5 v6 v7 v8 v9 v10 Q S) : J p l e rm_X7_worth s m args below meth c b D cy 12 (zI b D cy below args s G Q) 0 0 G S 74 [(0, .ref (b + v0)), (3, .int v3), (4, .ref (b + v4)), (5, .ref (b + v5)), (6, .int v6), (7, .int v7), (8, .int v8), (9, .int v9), (10, .int v10)] [] := by
  unfold f_X7_worth_74 at h
  refine jB C [(.iload 6, 2, 0), (.bipush 32, 2, 32)] 78 [(0, .ref (b + v0)), (3, .int v3), (4, .ref (b + v4)), (5, .ref (b + v5)), (6, .int v6), (7, .int v7), (8, .int v8), (9, .int v9), (10, .int v10)] [.int 32, .int v6] (by decide +kernel) rfl rfl ?_
  refine jIcmp_lt C 81 84 (by decide +kernel : decode cX7_worth 78 = .ok (.if_icmp .lt 6, 3)) rfl rfl (fun c1 => ?_) (fun c1 => ?_)
  · have h := it1 h c1
    refine jB C [(.aload_n 0, 1, 0)] 85 [(0, .ref (b + v0)), (3, .int v3), (4, .ref (b + v4)), (5, .ref (b + v5)), (6, .int v6), (7, .int v7), (8, .int v8), (9, .int v9), (10, .int v10)] [.ref (b + v0)] (by decide +kernel) rfl rfl ?_
    obtain ⟨a2, e_a2, h⟩ := h
    refine jGetR C 88 (by decide +kernel : decode cX7_worth 85 = .ok (.getfield 11, 3)) rfl t_v0 kX7 0 (by decide) rfl rfl (by decide) wd_112 e_a2 rfl (fun t_a2 => ?_)
    refine jB C [(.iload 6, 2, 0), (.iload 9, 2, 0)] 92 [(0, .ref (b + v0)), (3, .int v3), (4, .ref (b + v4)), (5, .ref (b + v5)), (6, .int v6), (7, .int v7), (8, .int v8), (9, .int v9), (10, .int v10)] [.int v9, .int v6, .ref (b + a2)] (by decide +kernel) rfl rfl ?_
    refine jIf_ne C 95 101 (by decide +kernel : decode cX7_worth 92 = .ok (.ifCond .ne 9, 3)) rfl rfl (fun c3 => ?_) (fun c3 => ?_)
    · have h := it2 h c3
      refine jB C [(.aload 4, 2, 0), (.iload 10, 2, 0)] 105 [(0, .ref (b + v0)), (3, .int v3), (4, .ref (b + v4)), (5, .ref (b + v5)), (6, .int v6), (7, .int v7), (8, .int v8), (9, .int v9), (10, .int v10)] [.int v10, .ref (b + v4), .int v6, .ref (b + a2)] (by decide +kernel) rfl rfl ?_
      refine jcS_I C 108 (rest := [.int v6, .ref (b + a2)]) (ok_X7_wordAt t_v4 h) (by decide +kernel : decode cX7_worth 105 = .ok (.invokestatic 22, 3)) rfl wd_475 wd_476 wd_5 wd_477 ⟨rfl, rfl⟩ hd_X7_wordAt ⟨Nat.le_of_ble_eq_true rfl, Nat.le_of_ble_eq_true rfl⟩ rfl rfl (Nat.le_of_ble_eq_true rfl) ⟨Nat.zero_le _, Nat.zero_le _⟩ (fun r5 S4 h => ?_)
      refine jB C [(.i2l, 1, 0)] 109 [(0, .ref (b + v0)), (3, .int v3), (4, .ref (b + v4)), (5, .ref (b + v5)), (6, .int v6), (7, .int v7), (8, .int v8), (9, .int v9), (10, .int v10)] [.long r5.toInt64, .int v6, .ref (b + a2)] (by decide +kernel) rfl rfl ?_
      refine jSub [0, 1, 2, 3, 4, 5, 6] rfl ?_
      exact j_X7_worth_109 C hE t_v0 t_v4 t_v5 t_a2 hk15 h
    · have h := it1 h c3
      refine jB C [(.iload 10, 2, 0), (.i2l, 1, 0)] 98 [(0, .ref (b + v0)), (3, .int v3), (4, .ref (b + v4)), (5, .ref (b + v5)), (6, .int v6), (7, .int v7), (8, .int v8), (9, .int v9), (10, .int v10)] [.long v10.toInt64, .int v6, .ref (b + a2)] (by decide +kernel) rfl rfl ?_
      refine jGoto C 109 (by decide +kernel : decode cX7_worth 98 = .ok (.goto 11, 3)) rfl ?_
      refine jSub [0, 1, 2, 3, 4, 5, 6] rfl ?_
      exact j_X7_worth_109 C hE t_v0 t_v4 t_v5 t_a2 hk15 h
  · have h := it2 h c1
    refine jLdc C 83 (by decide +kernel : decode cX7_worth 81 = .ok (.ldc 21, 2)) rfl wd_474 ?_
    exact jRetI C (by decide +kernel : decode cX7_worth 83 = .ok (.ireturn, 1)) (Nat.le_refl _) (Nat.le_refl _) ⟨rfl, h⟩
set_option maxHeartbeats 4000000 in
set_option maxRecDepth 100000 in
theorem j_X7_worth_15_n {p : Program} {l : Launch} {e : Env} {s : State} {m : MethodId} {args : Array Value} {below : List Frame} {meth : Method} {c : Code} {b : Nat} {D : va_G} {cy : Nat → ClassId} {G : Gm} {v0 : Nat} {v3 : Int32} {v4 : Nat} {v5 : Nat} {Q : Int32 → St → Prop} (C : CX p s m args meth c b D cy cX7_worth RX7 12 (some .int)) (hE : s.heap.size + 0 ≤ b + G.2.2) (t_v0 : ok G 6 v0) (t_v4 : ok G 11 v4) (t_v5 : ok G 11 v5) : ∀ n (v6 : Int32) (v7 : Int32) (v8 : Int32) S, f_X7_worth_15_n G v0 v3 v4 v5 Q n v6 v7 v8 S → J p l e rm_X7_worth s m args below meth c b D cy 12 (zI b D cy below args s G Q) 0 0 G S 15 [(0, .ref (b + v0)), (3, .int v3), (4, .ref (b + v4)), (5, .ref (b + v5)), (6, .int v6), (7, .int v7), (8, .int v8)] [] := by
  intro n
  induction n with
  | zero => intro v6 v7 v8 S h; exact h.elim
  | succ n ih =>
    intro v6 v7 v8 S h
    unfold f_X7_worth_15_n at h
    refine jB C [(.iload 8, 2, 0), (.sipush 400, 3, 400)] 20 [(0, .ref (b + v0)), (3, .int v3), (4, .ref (b + v4)), (5, .ref (b + v5)), (6, .int v6), (7, .int v7), (8, .int v8)] [.int 400, .int v8] (by decide +kernel) rfl rfl ?_
    refine jIcmp_ge C 23 325 (by decide +kernel : decode cX7_worth 20 = .ok (.if_icmp .ge 305, 3)) rfl rfl (fun c1 => ?_) (fun c1 => ?_)
    · have h := it1 h c1
      refine jSub [0, 4] rfl ?_
      exact j_X7_worth_325 C hE t_v0 h
    · have h := it2 h c1
      refine jB C [(.iload 7, 2, 0)] 25 [(0, .ref (b + v0)), (3, .int v3), (4, .ref (b + v4)), (5, .ref (b + v5)), (6, .int v6), (7, .int v7), (8, .int v8)] [.int v7] (by decide +kernel) rfl rfl ?_
      refine jIf_lt C 28 325 (by decide +kernel : decode cX7_worth 25 = .ok (.ifCond .lt 300, 3)) rfl rfl (fun c2 => ?_) (fun c2 => ?_)
      · have h := it1 h c2
        refine jSub [0, 4] rfl ?_
        exact j_X7_worth_325 C hE t_v0 h
      · have h := it2 h c2
        refine jB C [(.iload 7, 2, 0), (.iload_n 3, 1, 0)] 31 [(0, .ref (b + v0)), (3, .int v3), (4, .ref (b + v4)), (5, .ref (b + v5)), (6, .int v6), (7, .int v7), (8, .int v8)] [.int v3, .int v7] (by decide +kernel) rfl rfl ?_
        refine jIcmp_ge C 34 325 (by decide +kernel : decode cX7_worth 31 = .ok (.if_icmp .ge 294, 3)) rfl rfl (fun c3 => ?_) (fun c3 => ?_)
        · have h := it1 h c3
          refine jSub [0, 4] rfl ?_
          exact j_X7_worth_325 C hE t_v0 h
        · have h := it2 h c3
          refine jB C [(.iload 7, 2, 0), (.iconst 1, 1, 1), (.iadd, 1, 0), (.aload 5, 2, 0)] 40 [(0, .ref (b + v0)), (3, .int v3), (4, .ref (b + v4)), (5, .ref (b + v5)), (6, .int v6), (7, .int v7), (8, .int v8)] [.ref (b + v5), .int (v7 + 1)] (by decide +kernel) rfl rfl ?_
          refine jAlen11 C 41 (by decide +kernel : decode cX7_worth 40 = .ok (.arraylength, 1)) rfl t_v5 ?_
          refine jIcmp_ge C 44 325 (by decide +kernel : decode cX7_worth 41 = .ok (.if_icmp .ge 284, 3)) rfl rfl (fun c4 => ?_) (fun c4 => ?_)
          · have h := it1 h c4
            refine jSub [0, 4] rfl ?_
            exact j_X7_worth_325 C hE t_v0 h
          · have h := it2 h c4
            refine jB C [(.aload 5, 2, 0), (.iload 7, 2, 0)] 48 [(0, .ref (b + v0)), (3, .int v3), (4, .ref (b + v4)), (5, .ref (b + v5)), (6, .int v6), (7, .int v7), (8, .int v8)] [.int v7, .ref (b + v5)] (by decide +kernel) rfl rfl ?_
            obtain ⟨y5, h⟩ := h
            refine jIald C 49 (by decide +kernel : decode cX7_worth 48 = .ok (.iaload, 1)) rfl t_v5 y5 ?_
            refine jTopI (fun x6 e_x6 => ?_)
            have h := h x6 e_x6
            refine jB C [(.istore 9, 2, 0), (.aload 5, 2, 0), (.iload 7, 2, 0), (.iconst 1, 1, 1), (.iadd, 1, 0)] 57 [(9, .int x6), (0, .ref (b + v0)), (3, .int v3), (4, .ref (b + v4)), (5, .ref (b + v5)), (6, .int v6), (7, .int v7), (8, .int v8)] [.int (v7 + 1), .ref (b + v5)] (by decide +kernel) rfl rfl ?_
            obtain ⟨y7, h⟩ := h
            refine jIald C 58 (by decide +kernel : decode cX7_worth 57 = .ok (.iaload, 1)) rfl t_v5 y7 ?_
            refine jTopI (fun x8 e_x8 => ?_)
            have h := h x8 e_x8
            refine jB C [(.istore 10, 2, 0), (.iinc 7 2, 3, 2), (.iload 9, 2, 0)] 65 [(7, .int (v7 + 2)), (10, .int x8), (9, .int x6), (0, .ref (b + v0)), (3, .int v3), (4, .ref (b + v4)), (5, .ref (b + v5)), (6, .int v6), (8, .int v8)] [.int x6] (by decide +kernel) rfl rfl ?_
            refine jIf_eq C 68 74 (by decide +kernel : decode cX7_worth 65 = .ok (.ifCond .eq 9, 3)) rfl rfl (fun c9 => ?_) (fun c9 => ?_)
            · have h := it1 h c9
              refine jSub [3, 4, 5, 6, 7, 0, 8, 2, 1] rfl ?_
              exact j_X7_worth_74 C hE t_v0 t_v4 t_v5 ih h
            · have h := it2 h c9
              refine jB C [(.iload 9, 2, 0), (.iconst 1, 1, 1)] 71 [(7, .int (v7 + 2)), (10, .int x8), (9, .int x6), (0, .ref (b + v0)), (3, .int v3), (4, .ref (b + v4)), (5, .ref (b + v5)), (6, .int v6), (8, .int v8)] [.int 1, .int x6] (by decide +kernel) rfl rfl ?_
              refine jIcmp_ne C 74 116 (by decide +kernel : decode cX7_worth 71 = .ok (.if_icmp .ne 45, 3)) rfl rfl (fun c10 => ?_) (fun c10 => ?_)
              · have h := it2 h c10
                refine jB C [(.iload 6, 2, 0), (.iconst 1, 1, 1)] 119 [(7, .int (v7 + 2)), (10, .int x8), (9, .int x6), (0, .ref (b + v0)), (3, .int v3), (4, .ref (b + v4)), (5, .ref (b + v5)), (6, .int v6), (8, .int v8)] [.int 1, .int v6] (by decide +kernel) rfl rfl ?_
                refine jIcmp_lt C 122 129 (by decide +kernel : decode cX7_worth 119 = .ok (.if_icmp .lt 10, 3)) rfl rfl (fun c11 => ?_) (fun c11 => ?_)
                · have h := it1 h c11
                  refine jSub [] rfl ?_
                  exact j_X7_worth_129 C hE ih h
                · have h := it2 h c11
                  refine jB C [(.iload 6, 2, 0), (.bipush 32, 2, 32)] 126 [(7, .int (v7 + 2)), (10, .int x8), (9, .int x6), (0, .ref (b + v0)), (3, .int v3), (4, .ref (b + v4)), (5, .ref (b + v5)), (6, .int v6), (8, .int v8)] [.int 32, .int v6] (by decide +kernel) rfl rfl ?_
                  refine jIcmp_le C 129 132 (by decide +kernel : decode cX7_worth 126 = .ok (.if_icmp .le 6, 3)) rfl rfl (fun c12 => ?_) (fun c12 => ?_)
                  · have h := it1 h c12
                    refine jB C [(.iload 9, 2, 0), (.bipush 10, 2, 10)] 136 [(7, .int (v7 + 2)), (10, .int x8), (9, .int x6), (0, .ref (b + v0)), (3, .int v3), (4, .ref (b + v4)), (5, .ref (b + v5)), (6, .int v6), (8, .int v8)] [.int 10, .int x6] (by decide +kernel) rfl rfl ?_
                    refine jIcmp_ne C 139 162 (by decide +kernel : decode cX7_worth 136 = .ok (.if_icmp .ne 26, 3)) rfl rfl (fun c13 => ?_) (fun c13 => ?_)
                    · have h := it2 h c13
                      refine jB C [(.iload 9, 2, 0), (.bipush 11, 2, 11)] 166 [(7, .int (v7 + 2)), (10, .int x8), (9, .int x6), (0, .ref (b + v0)), (3, .int v3), (4, .ref (b + v4)), (5, .ref (b + v5)), (6, .int v6), (8, .int v8)] [.int 11, .int x6] (by decide +kernel) rfl rfl ?_
                      refine jIcmp_eq C 169 176 (by decide +kernel : decode cX7_worth 166 = .ok (.if_icmp .eq 10, 3)) rfl rfl (fun c14 => ?_) (fun c14 => ?_)
                      · have h := it1 h c14
                        refine jSub [3, 4, 5, 6, 7, 0, 8, 2, 1] rfl ?_
                        exact j_X7_worth_176 C hE t_v0 t_v4 t_v5 ih h
                      · have h := it2 h c14
                        refine jB C [(.iload 9, 2, 0), (.bipush 12, 2, 12)] 173 [(7, .int (v7 + 2)), (10, .int x8), (9, .int x6), (0, .ref (b + v0)), (3, .int v3), (4, .ref (b + v4)), (5, .ref (b + v5)), (6, .int v6), (8, .int v8)] [.int 12, .int x6] (by decide +kernel) rfl rfl ?_
                        refine jIcmp_ne C 176 242 (by decide +kernel : decode cX7_worth 173 = .ok (.if_icmp .ne 69, 3)) rfl rfl (fun c15 => ?_) (fun c15 => ?_)
                        · have h := it2 h c15
                          refine jB C [(.iload 6, 2, 0), (.iconst 2, 1, 2)] 245 [(7, .int (v7 + 2)), (10, .int x8), (9, .int x6), (0, .ref (b + v0)), (3, .int v3), (4, .ref (b + v4)), (5, .ref (b + v5)), (6, .int v6), (8, .int v8)] [.int 2, .int v6] (by decide +kernel) rfl rfl ?_
                          refine jIcmp_ge C 248 251 (by decide +kernel : decode cX7_worth 245 = .ok (.if_icmp .ge 6, 3)) rfl rfl (fun c16 => ?_) (fun c16 => ?_)
                          · have h := it1 h c16
                            refine jB C [(.iinc 6 (-1), 3, (-1)), (.aload_n 0, 1, 0)] 255 [(6, .int (v6 + (-1))), (7, .int (v7 + 2)), (10, .int x8), (9, .int x6), (0, .ref (b + v0)), (3, .int v3), (4, .ref (b + v4)), (5, .ref (b + v5)), (8, .int v8)] [.ref (b + v0)] (by decide +kernel) rfl rfl ?_
                            obtain ⟨a17, e_a17, h⟩ := h
                            refine jGetR C 258 (by decide +kernel : decode cX7_worth 255 = .ok (.getfield 11, 3)) rfl t_v0 kX7 0 (by decide) rfl rfl (by decide) wd_112 e_a17 rfl (fun t_a17 => ?_)
                            refine jB C [(.iload 6, 2, 0), (.iconst 1, 1, 1), (.isub, 1, 0), (.iload 9, 2, 0), (.aload_n 0, 1, 0)] 265 [(6, .int (v6 + (-1))), (7, .int (v7 + 2)), (10, .int x8), (9, .int x6), (0, .ref (b + v0)), (3, .int v3), (4, .ref (b + v4)), (5, .ref (b + v5)), (8, .int v8)] [.ref (b + v0), .int x6, .int ((v6 + (-1)) - 1), .ref (b + a17)] (by decide +kernel) rfl rfl ?_
                            obtain ⟨a18, e_a18, h⟩ := h
                            refine jGetR C 268 (by decide +kernel : decode cX7_worth 265 = .ok (.getfield 11, 3)) rfl t_v0 kX7 0 (by decide) rfl rfl (by decide) wd_112 e_a18 rfl (fun t_a18 => ?_)
                            refine jB C [(.iload 6, 2, 0), (.iconst 1, 1, 1), (.isub, 1, 0)] 272 [(6, .int (v6 + (-1))), (7, .int (v7 + 2)), (10, .int x8), (9, .int x6), (0, .ref (b + v0)), (3, .int v3), (4, .ref (b + v4)), (5, .ref (b + v5)), (8, .int v8)] [.int ((v6 + (-1)) - 1), .ref (b + a18), .int x6, .int ((v6 + (-1)) - 1), .ref (b + a17)] (by decide +kernel) rfl rfl ?_
                            obtain ⟨y19, h⟩ := h
                            refine jLald C 273 (by decide +kernel : decode cX7_worth 272 = .ok (.laload, 1)) rfl t_a18 y19 ?_
                            refine jB C [(.aload_n 0, 1, 0)] 274 [(6, .int (v6 + (-1))), (7, .int (v7 + 2)), (10, .int x8), (9, .int x6), (0, .ref (b + v0)), (3, .int v3), (4, .ref (b + v4)), (5, .ref (b + v5)), (8, .int v8)] [.ref (b + v0), .long (S.2.1 a18 ((v6 + (-1)) - 1).toNatClampNeg), .int x6, .int ((v6 + (-1)) - 1), .ref (b + a17)] (by decide +kernel) rfl rfl ?_
                            obtain ⟨a20, e_a20, h⟩ := h
                            refine jGetR C 277 (by decide +kernel : decode cX7_worth 274 = .ok (.getfield 11, 3)) rfl t_v0 kX7 0 (by decide) rfl rfl (by decide) wd_112 e_a20 rfl (fun t_a20 => ?_)
                            refine jB C [(.iload 6, 2, 0)] 279 [(6, .int (v6 + (-1))), (7, .int (v7 + 2)), (10, .int x8), (9, .int x6), (0, .ref (b + v0)), (3, .int v3), (4, .ref (b + v4)), (5, .ref (b + v5)), (8, .int v8)] [.int (v6 + (-1)), .ref (b + a20), .long (S.2.1 a18 ((v6 + (-1)) - 1).toNatClampNeg), .int x6, .int ((v6 + (-1)) - 1), .ref (b + a17)] (by decide +kernel) rfl rfl ?_
                            obtain ⟨y21, h⟩ := h
                            refine jLald C 280 (by decide +kernel : decode cX7_worth 279 = .ok (.laload, 1)) rfl t_a20 y21 ?_
                            refine jcS_L C 283 (rest := [.int ((v6 + (-1)) - 1), .ref (b + a17)]) (ok_X7_joined h) (by decide +kernel : decode cX7_worth 280 = .ok (.invokestatic 26, 3)) rfl wd_478 wd_479 wd_5 wd_480 ⟨rfl, rfl⟩ hd_X7_joined ⟨Nat.le_of_ble_eq_true rfl, Nat.le_of_ble_eq_true rfl⟩ rfl rfl (Nat.le_of_ble_eq_true rfl) ⟨Nat.zero_le _, Nat.zero_le _⟩ (fun r23 S22 h => ?_)
                            obtain ⟨y24, h⟩ := h
                            refine jLast C 284 (by decide +kernel : decode cX7_worth 283 = .ok (.lastore, 1)) rfl hE t_a17 y24 ?_
                            refine jTopS (fun S25 e_S25 => ?_)
                            have h := h S25 e_S25
                            refine jB C [(.aload_n 0, 1, 0)] 285 [(6, .int (v6 + (-1))), (7, .int (v7 + 2)), (10, .int x8), (9, .int x6), (0, .ref (b + v0)), (3, .int v3), (4, .ref (b + v4)), (5, .ref (b + v5)), (8, .int v8)] [.ref (b + v0)] (by decide +kernel) rfl rfl ?_
                            obtain ⟨a26, e_a26, h⟩ := h
                            refine jGetR C 288 (by decide +kernel : decode cX7_worth 285 = .ok (.getfield 11, 3)) rfl t_v0 kX7 0 (by decide) rfl rfl (by decide) wd_112 e_a26 rfl (fun t_a26 => ?_)
                            refine jB C [(.iload 6, 2, 0), (.iconst 1, 1, 1), (.isub, 1, 0)] 292 [(6, .int (v6 + (-1))), (7, .int (v7 + 2)), (10, .int x8), (9, .int x6), (0, .ref (b + v0)), (3, .int v3), (4, .ref (b + v4)), (5, .ref (b + v5)), (8, .int v8)] [.int ((v6 + (-1)) - 1), .ref (b + a26)] (by decide +kernel) rfl rfl ?_
                            obtain ⟨y27, h⟩ := h
                            refine jLald C 293 (by decide +kernel : decode cX7_worth 292 = .ok (.laload, 1)) rfl t_a26 y27 ?_
                            refine jLdc2 C 296 (by decide +kernel : decode cX7_worth 293 = .ok (.ldc2_w 30, 3)) rfl wd_482 ?_
                            refine jB C [(.lcmp, 1, 0)] 297 [(6, .int (v6 + (-1))), (7, .int (v7 + 2)), (10, .int x8), (9, .int x6), (0, .ref (b + v0)), (3, .int v3), (4, .ref (b + v4)), (5, .ref (b + v5)), (8, .int v8)] [.int (lg_cmp (S25.2.1 a26 ((v6 + (-1)) - 1).toNatClampNeg) 1000000000)] (by decide +kernel) rfl rfl ?_
                            refine jIf_gt C 300 316 (by decide +kernel : decode cX7_worth 297 = .ok (.ifCond .gt 19, 3)) rfl rfl (fun c28 => ?_) (fun c28 => ?_)
                            · have h := it1 h c28
                              refine jSub [] rfl ?_
                              exact j_X7_worth_316 C hE ih h
                            · have h := it2 h c28
                              refine jB C [(.aload_n 0, 1, 0)] 301 [(6, .int (v6 + (-1))), (7, .int (v7 + 2)), (10, .int x8), (9, .int x6), (0, .ref (b + v0)), (3, .int v3), (4, .ref (b + v4)), (5, .ref (b + v5)), (8, .int v8)] [.ref (b + v0)] (by decide +kernel) rfl rfl ?_
                              obtain ⟨a29, e_a29, h⟩ := h
                              refine jGetR C 304 (by decide +kernel : decode cX7_worth 301 = .ok (.getfield 11, 3)) rfl t_v0 kX7 0 (by decide) rfl rfl (by decide) wd_112 e_a29 rfl (fun t_a29 => ?_)
                              refine jB C [(.iload 6, 2, 0), (.iconst 1, 1, 1), (.isub, 1, 0)] 308 [(6, .int (v6 + (-1))), (7, .int (v7 + 2)), (10, .int x8), (9, .int x6), (0, .ref (b + v0)), (3, .int v3), (4, .ref (b + v4)), (5, .ref (b + v5)), (8, .int v8)] [.int ((v6 + (-1)) - 1), .ref (b + a29)] (by decide +kernel) rfl rfl ?_
                              obtain ⟨y30, h⟩ := h
                              refine jLald C 309 (by decide +kernel : decode cX7_worth 308 = .ok (.laload, 1)) rfl t_a29 y30 ?_
                              refine jLdc2 C 312 (by decide +kernel : decode cX7_worth 309 = .ok (.ldc2_w 32, 3)) rfl wd_483 ?_
                              refine jB C [(.lcmp, 1, 0)] 313 [(6, .int (v6 + (-1))), (7, .int (v7 + 2)), (10, .int x8), (9, .int x6), (0, .ref (b + v0)), (3, .int v3), (4, .ref (b + v4)), (5, .ref (b + v5)), (8, .int v8)] [.int (lg_cmp (S25.2.1 a29 ((v6 + (-1)) - 1).toNatClampNeg) (-1000000000))] (by decide +kernel) rfl rfl ?_
                              refine jIf_ge C 316 319 (by decide +kernel : decode cX7_worth 313 = .ok (.ifCond .ge 6, 3)) rfl rfl (fun c31 => ?_) (fun c31 => ?_)
                              · have h := it1 h c31
                                refine jB C [(.iinc 8 1, 3, 1)] 322 [(8, .int (v8 + 1)), (6, .int (v6 + (-1))), (7, .int (v7 + 2)), (10, .int x8), (9, .int x6), (0, .ref (b + v0)), (3, .int v3), (4, .ref (b + v4)), (5, .ref (b + v5))] [] (by decide +kernel) rfl rfl ?_
                                refine jGoto C 15 (by decide +kernel : decode cX7_worth 322 = .ok (.goto (-307), 3)) rfl ?_
                                refine jSub [5, 6, 7, 8, 1, 2, 0] rfl ?_
                                exact ih (v6 + (-1)) (v7 + 2) (v8 + 1) S25 h
                              · have h := it2 h c31
                                refine jSub [] rfl ?_
                                exact j_X7_worth_316 C hE ih h
                          · have h := it2 h c16
                            refine jLdc C 250 (by decide +kernel : decode cX7_worth 248 = .ok (.ldc 21, 2)) rfl wd_474 ?_
                            exact jRetI C (by decide +kernel : decode cX7_worth 250 = .ok (.ireturn, 1)) (Nat.le_refl _) (Nat.le_refl _) ⟨rfl, h⟩
                        · have h := it1 h c15
                          refine jSub [3, 4, 5, 6, 7, 0, 8, 2, 1] rfl ?_
                          exact j_X7_worth_176 C hE t_v0 t_v4 t_v5 ih h
                    · have h := it1 h c13
                      refine jB C [(.aload_n 0, 1, 0)] 140 [(7, .int (v7 + 2)), (10, .int x8), (9, .int x6), (0, .ref (b + v0)), (3, .int v3), (4, .ref (b + v4)), (5, .ref (b + v5)), (6, .int v6), (8, .int v8)] [.ref (b + v0)] (by decide +kernel) rfl rfl ?_
                      obtain ⟨a32, e_a32, h⟩ := h
                      refine jGetR C 143 (by decide +kernel : decode cX7_worth 140 = .ok (.getfield 11, 3)) rfl t_v0 kX7 0 (by decide) rfl rfl (by decide) wd_112 e_a32 rfl (fun t_a32 => ?_)
                      refine jB C [(.iload 6, 2, 0), (.iconst 1, 1, 1), (.isub, 1, 0), (.lconst 1, 1, 0), (.aload_n 0, 1, 0)] 149 [(7, .int (v7 + 2)), (10, .int x8), (9, .int x6), (0, .ref (b + v0)), (3, .int v3), (4, .ref (b + v4)), (5, .ref (b + v5)), (6, .int v6), (8, .int v8)] [.ref (b + v0), .long 1, .int (v6 - 1), .ref (b + a32)] (by decide +kernel) rfl rfl ?_
                      obtain ⟨a33, e_a33, h⟩ := h
                      refine jGetR C 152 (by decide +kernel : decode cX7_worth 149 = .ok (.getfield 11, 3)) rfl t_v0 kX7 0 (by decide) rfl rfl (by decide) wd_112 e_a33 rfl (fun t_a33 => ?_)
                      refine jB C [(.iload 6, 2, 0), (.iconst 1, 1, 1), (.isub, 1, 0)] 156 [(7, .int (v7 + 2)), (10, .int x8), (9, .int x6), (0, .ref (b + v0)), (3, .int v3), (4, .ref (b + v4)), (5, .ref (b + v5)), (6, .int v6), (8, .int v8)] [.int (v6 - 1), .ref (b + a33), .long 1, .int (v6 - 1), .ref (b + a32)] (by decide +kernel) rfl rfl ?_
                      obtain ⟨y34, h⟩ := h
                      refine jLald C 157 (by decide +kernel : decode cX7_worth 156 = .ok (.laload, 1)) rfl t_a33 y34 ?_
                      refine jB C [(.lsub, 1, 0)] 158 [(7, .int (v7 + 2)), (10, .int x8), (9, .int x6), (0, .ref (b + v0)), (3, .int v3), (4, .ref (b + v4)), (5, .ref (b + v5)), (6, .int v6), (8, .int v8)] [.long (1 - (S.2.1 a33 (v6 - 1).toNatClampNeg)), .int (v6 - 1), .ref (b + a32)] (by decide +kernel) rfl rfl ?_
                      obtain ⟨y35, h⟩ := h
                      refine jLast C 159 (by decide +kernel : decode cX7_worth 158 = .ok (.lastore, 1)) rfl hE t_a32 y35 ?_
                      refine jTopS (fun S36 e_S36 => ?_)
                      have h := h S36 e_S36
                      refine jGoto C 319 (by decide +kernel : decode cX7_worth 159 = .ok (.goto 160, 3)) rfl ?_
                      refine jB C [(.iinc 8 1, 3, 1)] 322 [(8, .int (v8 + 1)), (7, .int (v7 + 2)), (10, .int x8), (9, .int x6), (0, .ref (b + v0)), (3, .int v3), (4, .ref (b + v4)), (5, .ref (b + v5)), (6, .int v6)] [] (by decide +kernel) rfl rfl ?_
                      refine jGoto C 15 (by decide +kernel : decode cX7_worth 322 = .ok (.goto (-307), 3)) rfl ?_
                      refine jSub [4, 5, 6, 7, 8, 1, 0] rfl ?_
                      exact ih v6 (v7 + 2) (v8 + 1) S36 h
                  · have h := it2 h c12
                    refine jSub [] rfl ?_
                    exact j_X7_worth_129 C hE ih h
              · have h := it1 h c10
                refine jSub [3, 4, 5, 6, 7, 0, 8, 2, 1] rfl ?_
                exact j_X7_worth_74 C hE t_v0 t_v4 t_v5 ih h
theorem j_X7_worth_15 {p : Program} {l : Launch} {e : Env} {s : State} {m : MethodId} {args : Array Value} {below : List Frame} {meth : Method} {c : Code} {b : Nat} {D : va_G} {cy : Nat → ClassId} {G : Gm} {v0 : Nat} {v3 : Int32} {v4 : Nat} {v5 : Nat} {v6 : Int32} {v7 : Int32} {v8 : Int32} {S : St} {Q : Int32 → St → Prop} (C : CX p s m args meth c b D cy cX7_worth RX7 12 (some .int)) (hE : s.heap.size + 0 ≤ b + G.2.2) (t_v0 : ok G 6 v0) (t_v4 : ok G 11 v4) (t_v5 : ok G 11 v5) (h : f_X7_worth_15 G v0 v3 v4 v5 Q v6 v7 v8 S) : J p l e rm_X7_worth s m args below meth c b D cy 12 (zI b D cy below args s G Q) 0 0 G S 15 [(0, .ref (b + v0)), (3, .int v3), (4, .ref (b + v4)), (5, .ref (b + v5)), (6, .int v6), (7, .int v7), (8, .int v8)] [] := by
  obtain ⟨n, h⟩ := h
  exact j_X7_worth_15_n C hE t_v0 t_v4 t_v5 n v6 v7 v8 S h
set_option maxHeartbeats 4000000 in
set_option maxRecDepth 100000 in
theorem j_X7_worth {p : Program} {l : Launch} {e : Env} {s : State} {m : MethodId} {args : Array Value} {below : List Frame} {meth : Method} {c : Code} {b : Nat} {D : va_G} {cy : Nat → ClassId} {G : Gm} {v0 : Nat} {v1 : Nat} {v2 : Int32} {v3 : Int32} {v4 : Nat} {S : St} {Q : Int32 → St → Prop} (C : CX p s m args meth c b D cy cX7_worth RX7 12 (some .int)) (hE : s.heap.size + 0 ≤ b + G.2.2) (t_v0 : ok G 6 v0) (t_v1 : ok G 7 v1) (t_v4 : ok G 11 v4) (h : f_X7_worth G v0 v1 v2 v3 v4 Q S) : J p l e rm_X7_worth s m args below meth c b D cy 12 (zI b D cy below args s G Q) 0 0 G S 0 [(0, .ref (b + v0)), (1, .ref (b + v1)), (2, .int v2), (3, .int v3), (4, .ref (b + v4))] [] := by
  unfold f_X7_worth at h
  refine jB C [(.aload_n 1, 1, 0)] 1 [(0, .ref (b + v0)), (1, .ref (b + v1)), (2, .int v2), (3, .int v3), (4, .ref (b + v4))] [.ref (b + v1)] (by decide +kernel) rfl rfl ?_
  obtain ⟨a1, e_a1, h⟩ := h
  refine jGetRN C 4 (by decide +kernel : decode cX7_worth 1 = .ok (.getfield 15, 3)) rfl t_v1 kX8 4 (by decide) rfl rfl (by decide) wn_254 e_a1 rfl (fun t_a1 => ?_)
  refine jB C [(.astore 5, 2, 0), (.iconst 0, 1, 0), (.istore 6, 2, 0), (.iload_n 2, 1, 0), (.istore 7, 2, 0), (.iconst 0, 1, 0), (.istore 8, 2, 0)] 15 [(8, .int 0), (7, .int v2), (6, .int 0), (5, .ref (b + a1)), (0, .ref (b + v0)), (1, .ref (b + v1)), (2, .int v2), (3, .int v3), (4, .ref (b + v4))] [] (by decide +kernel) rfl rfl ?_
  refine jSub [4, 7, 8, 3, 2, 1, 0] rfl ?_
  exact j_X7_worth_15 C hE t_v0 t_v4 t_a1 h
theorem ok_X7_worth {G : Gm} {v0 : Nat} {v1 : Nat} {v2 : Int32} {v3 : Int32} {v4 : Nat} {S : St} {Q : Int32 → St → Prop} (t_v0 : ok G 6 v0) (t_v1 : ok G 7 v1) (t_v4 : ok G 11 v4) (h : f_X7_worth G v0 v1 v2 v3 v4 Q S) : MT yX7_worth cX7_worth 12 (some .int) rm_X7_worth 0 0 (fun b => [.ref (b + v0), .ref (b + v1), .int v2, .int v3, .ref (b + v4)]) G S (QI (fun r G1 S1 => G1 = G ∧ Q r S1)) := MT.ofJ (by decide) (fun b => [(0, .ref (b + v0)), (1, .ref (b + v1)), (2, .int v2), (3, .int v3), (4, .ref (b + v4))]) (fun b => rfl) (fun b => Nat.le_of_ble_eq_true rfl) (fun l b D cy p e s m below meth c C hE hn => j_X7_worth C hE t_v0 t_v1 t_v4 h)
theorem hd_X7_worth : yX7_worth.cls ≠ "java/lang/invoke/MethodHandle" ∧ yX7_worth.cls ≠ "java/lang/invoke/VarHandle" ∧ (parseMethodDescriptor yX7_worth.desc).map (fun d => d.parameters.length) = some 4 := by decide +kernel
