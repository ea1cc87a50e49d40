abbrev rm_X6_reads : Room := { frames := 72, cells := 0, slots := 0, locals := 2344 }
set_option maxHeartbeats 4000000 in
set_option maxRecDepth 100000 in
theorem j_X6_reads_99 {p : Program} {l : Launch} {e : Env} {s : State} {m : MethodId} {args : Array Value} {below : List Frame} {meth : Method} {c : Code} {b : Nat} {D : va_G} {cy : Nat → ClassId} {G : Gm} {v0 : Nat} {S : St} {Q : Int32 → St → Prop} (C : CX p s m args meth c b D cy cX6_reads RX6 3 (some .boolean)) (hE : s.heap.size + 0 ≤ b + G.2.2) (t_v0 : ok G 5 v0) (h : f_X6_reads_99 G v0 Q S) : J p l e rm_X6_reads s m args below meth c b D cy 3 (zI b D cy below args s G Q) 0 0 G S 99 [(0, .ref (b + v0))] [] := by
  unfold f_X6_reads_99 at h
  refine jB C [(.aload_n 0, 1, 0), (.iconst 0, 1, 0)] 101 [(0, .ref (b + v0))] [.int 0, .ref (b + v0)] (by decide +kernel) rfl rfl ?_
  refine jPutI C 104 (by decide +kernel : decode cX6_reads 101 = .ok (.putfield 37, 3)) rfl hE t_v0 kX6 1 (by decide) rfl rfl (by decide) rfl wd_275 rfl rfl rfl ?_
  refine jTopS (fun S1 e_S1 => ?_)
  have h := h S1 e_S1
  refine jB C [(.aload_n 0, 1, 0)] 105 [(0, .ref (b + v0))] [.ref (b + v0)] (by decide +kernel) rfl rfl ?_
  refine jGetI C 108 (by decide +kernel : decode cX6_reads 105 = .ok (.getfield 24, 3)) rfl t_v0 kX6 9 (by decide) rfl rfl (by decide) wd_284 ?_
  refine jB C [(.iconst (-1), 1, (-1))] 109 [(0, .ref (b + v0))] [.int (-1), .int (S1.1 v0 9)] (by decide +kernel) rfl rfl ?_
  refine jIcmp_ne C 112 116 (by decide +kernel : decode cX6_reads 109 = .ok (.if_icmp .ne 7, 3)) rfl rfl (fun c2 => ?_) (fun c2 => ?_)
  · have h := it2 h c2
    refine jB C [(.iconst 0, 1, 0)] 117 [(0, .ref (b + v0))] [.int 0] (by decide +kernel) rfl rfl ?_
    exact jRetZ C (by decide +kernel : decode cX6_reads 117 = .ok (.ireturn, 1)) (Nat.le_refl _) (Nat.le_refl _) (by decide) ⟨rfl, h⟩
  · have h := it1 h c2
    refine jB C [(.iconst 1, 1, 1)] 113 [(0, .ref (b + v0))] [.int 1] (by decide +kernel) rfl rfl ?_
    refine jGoto C 117 (by decide +kernel : decode cX6_reads 113 = .ok (.goto 4, 3)) rfl ?_
    exact jRetZ C (by decide +kernel : decode cX6_reads 117 = .ok (.ireturn, 1)) (Nat.le_refl _) (Nat.le_refl _) (by decide) ⟨rfl, h⟩
set_option maxHeartbeats 4000000 in
set_option maxRecDepth 100000 in
theorem j_X6_reads_86 {p : Program} {l : Launch} {e : Env} {s : State} {m : MethodId} {args : Array Value} {below : List Frame} {meth : Method} {c : Code} {b : Nat} {D : va_G} {cy : Nat → ClassId} {G : Gm} {v0 : Nat} {S : St} {Q : Int32 → St → Prop} (C : CX p s m args meth c b D cy cX6_reads RX6 3 (some .boolean)) (hE : s.heap.size + 0 ≤ b + G.2.2) (t_v0 : ok G 5 v0) (h : f_X6_reads_86 G v0 Q S) : J p l e rm_X6_reads s m args below meth c b D cy 3 (zI b D cy below args s G Q) 0 0 G S 86 [(0, .ref (b + v0))] [] := by
  unfold f_X6_reads_86 at h
  refine jB C [(.aload_n 0, 1, 0)] 87 [(0, .ref (b + v0))] [.ref (b + v0)] (by decide +kernel) rfl rfl ?_
  refine jcV_I C 90 (rest := []) (ok_X6_here t_v0 h) (by decide +kernel : decode cX6_reads 87 = .ok (.invokevirtual 63, 3)) rfl wd_676 wd_678 wp_42 wd_9 wd_679 ⟨rfl, rfl⟩ hd_X6_here ⟨Nat.le_of_ble_eq_true rfl, Nat.le_of_ble_eq_true rfl⟩ t_v0 kX6 (by decide) rfl rfl rfl (Nat.le_of_ble_eq_true rfl) ⟨Nat.zero_le _, Nat.zero_le _⟩ (fun r2 S1 h => ?_)
  refine jB C [(.bipush 51, 2, 51)] 92 [(0, .ref (b + v0))] [.int 51, .int r2] (by decide +kernel) rfl rfl ?_
  refine jIcmp_eq C 95 99 (by decide +kernel : decode cX6_reads 92 = .ok (.if_icmp .eq 7, 3)) rfl rfl (fun c3 => ?_) (fun c3 => ?_)
  · have h := it1 h c3
    refine jSub [0] rfl ?_
    exact j_X6_reads_99 C hE t_v0 h
  · have h := it2 h c3
    refine jB C [(.aload_n 0, 1, 0)] 96 [(0, .ref (b + v0))] [.ref (b + v0)] (by decide +kernel) rfl rfl ?_
    refine jcV_V C 99 (rest := []) (ok_X6_fail t_v0 h) (by decide +kernel : decode cX6_reads 96 = .ok (.invokevirtual 67, 3)) rfl wd_680 wd_682 wp_43 wd_9 wd_683 ⟨rfl, rfl⟩ hd_X6_fail ⟨Nat.le_of_ble_eq_true rfl, Nat.le_of_ble_eq_true rfl⟩ t_v0 kX6 (by decide) rfl rfl rfl (Nat.le_of_ble_eq_true rfl) ⟨Nat.zero_le _, Nat.zero_le _⟩ (fun S4 h => ?_)
    refine jSub [0] rfl ?_
    exact j_X6_reads_99 C hE t_v0 h
set_option maxHeartbeats 4000000 in
set_option maxRecDepth 100000 in
theorem j_X6_reads_37_n {p : Program} {l : Launch} {e : Env} {s : State} {m : MethodId} {args : Array Value} {below : List Frame} {meth : Method} {c : Code} {b : Nat} {D : va_G} {cy : Nat → ClassId} {G : Gm} {v0 : Nat} {Q : Int32 → St → Prop} (C : CX p s m args meth c b D cy cX6_reads RX6 3 (some .boolean)) (hE : s.heap.size + 0 ≤ b + G.2.2) (t_v0 : ok G 5 v0) : ∀ k (v2 : Int32) S, f_X6_reads_37_n G v0 Q k v2 S → J p l e rm_X6_reads s m args below meth c b D cy 3 (zI b D cy below args s G Q) 0 0 G S 37 [(0, .ref (b + v0)), (2, .int v2)] [] := by
  intro k
  induction k with
  | zero => intro v2 S h; exact h.elim
  | succ k ih =>
    intro v2 S h
    unfold f_X6_reads_37_n at h
    refine jB C [(.iload_n 2, 1, 0), (.bipush 12, 2, 12)] 40 [(0, .ref (b + v0)), (2, .int v2)] [.int 12, .int v2] (by decide +kernel) rfl rfl ?_
    refine jIcmp_gt C 43 86 (by decide +kernel : decode cX6_reads 40 = .ok (.if_icmp .gt 46, 3)) rfl rfl (fun c1 => ?_) (fun c1 => ?_)
    · have h := it1 h c1
      refine jSub [0] rfl ?_
      exact j_X6_reads_86 C hE t_v0 h
    · have h := it2 h c1
      refine jB C [(.aload_n 0, 1, 0)] 44 [(0, .ref (b + v0)), (2, .int v2)] [.ref (b + v0)] (by decide +kernel) rfl rfl ?_
      refine jcV_I C 47 (rest := []) (ok_X6_here t_v0 h) (by decide +kernel : decode cX6_reads 44 = .ok (.invokevirtual 63, 3)) rfl wd_676 wd_678 wp_42 wd_9 wd_679 ⟨rfl, rfl⟩ hd_X6_here ⟨Nat.le_of_ble_eq_true rfl, Nat.le_of_ble_eq_true rfl⟩ t_v0 kX6 (by decide) rfl rfl rfl (Nat.le_of_ble_eq_true rfl) ⟨Nat.zero_le _, Nat.zero_le _⟩ (fun r3 S2 h => ?_)
      refine jB C [(.sipush 159, 3, 159)] 50 [(0, .ref (b + v0)), (2, .int v2)] [.int 159, .int r3] (by decide +kernel) rfl rfl ?_
      refine jIcmp_ne C 53 86 (by decide +kernel : decode cX6_reads 50 = .ok (.if_icmp .ne 36, 3)) rfl rfl (fun c4 => ?_) (fun c4 => ?_)
      · have h := it2 h c4
        refine jSub [0] rfl ?_
        exact j_X6_reads_86 C hE t_v0 h
      · have h := it1 h c4
        refine jB C [(.aload_n 0, 1, 0), (.dup, 1, 0)] 55 [(0, .ref (b + v0)), (2, .int v2)] [.ref (b + v0), .ref (b + v0)] (by decide +kernel) rfl rfl ?_
        refine jGetI C 58 (by decide +kernel : decode cX6_reads 55 = .ok (.getfield 51, 3)) rfl t_v0 kX6 6 (by decide) rfl rfl (by decide) wd_281 ?_
        refine jB C [(.iconst 1, 1, 1), (.iadd, 1, 0)] 60 [(0, .ref (b + v0)), (2, .int v2)] [.int ((S2.1 v0 6) + 1), .ref (b + v0)] (by decide +kernel) rfl rfl ?_
        refine jPutI C 63 (by decide +kernel : decode cX6_reads 60 = .ok (.putfield 51, 3)) rfl hE t_v0 kX6 6 (by decide) rfl rfl (by decide) rfl wd_281 rfl rfl rfl ?_
        refine jTopS (fun S5 e_S5 => ?_)
        have h := h S5 e_S5
        refine jB C [(.iload_n 2, 1, 0), (.bipush 12, 2, 12)] 66 [(0, .ref (b + v0)), (2, .int v2)] [.int 12, .int v2] (by decide +kernel) rfl rfl ?_
        refine jIcmp_ne C 69 76 (by decide +kernel : decode cX6_reads 66 = .ok (.if_icmp .ne 10, 3)) rfl rfl (fun c6 => ?_) (fun c6 => ?_)
        · have h := it2 h c6
          refine jB C [(.aload_n 0, 1, 0)] 77 [(0, .ref (b + v0)), (2, .int v2)] [.ref (b + v0)] (by decide +kernel) rfl rfl ?_
          refine jcV_V C 80 (rest := []) (ok_X6_clause t_v0 h) (by decide +kernel : decode cX6_reads 77 = .ok (.invokevirtual 60, 3)) rfl wd_672 wd_674 wp_41 wd_9 wd_675 ⟨rfl, rfl⟩ hd_X6_clause ⟨Nat.le_of_ble_eq_true rfl, Nat.le_of_ble_eq_true rfl⟩ t_v0 kX6 (by decide) rfl rfl rfl (Nat.le_of_ble_eq_true rfl) ⟨Nat.zero_le _, Nat.zero_le _⟩ (fun S7 h => ?_)
          refine jB C [(.iinc 2 1, 3, 1)] 83 [(2, .int (v2 + 1)), (0, .ref (b + v0))] [] (by decide +kernel) rfl rfl ?_
          refine jGoto C 37 (by decide +kernel : decode cX6_reads 83 = .ok (.goto (-46), 3)) rfl ?_
          refine jSub [1, 0] rfl ?_
          exact ih (v2 + 1) S7 h
        · have h := it1 h c6
          refine jB C [(.aload_n 0, 1, 0)] 70 [(0, .ref (b + v0)), (2, .int v2)] [.ref (b + v0)] (by decide +kernel) rfl rfl ?_
          refine jcV_V C 73 (rest := []) (ok_X6_fail t_v0 h) (by decide +kernel : decode cX6_reads 70 = .ok (.invokevirtual 67, 3)) rfl wd_680 wd_682 wp_43 wd_9 wd_683 ⟨rfl, rfl⟩ hd_X6_fail ⟨Nat.le_of_ble_eq_true rfl, Nat.le_of_ble_eq_true rfl⟩ t_v0 kX6 (by decide) rfl rfl rfl (Nat.le_of_ble_eq_true rfl) ⟨Nat.zero_le _, Nat.zero_le _⟩ (fun S8 h => ?_)
          refine jGoto C 80 (by decide +kernel : decode cX6_reads 73 = .ok (.goto 7, 3)) rfl ?_
          refine jB C [(.iinc 2 1, 3, 1)] 83 [(2, .int (v2 + 1)), (0, .ref (b + v0))] [] (by decide +kernel) rfl rfl ?_
          refine jGoto C 37 (by decide +kernel : decode cX6_reads 83 = .ok (.goto (-46), 3)) rfl ?_
          refine jSub [1, 0] rfl ?_
          exact ih (v2 + 1) S8 h
theorem j_X6_reads_37 {p : Program} {l : Launch} {e : Env} {s : State} {m : MethodId} {args : Array Value} {below : List Frame} {meth : Method} {c : Code} {b : Nat} {D : va_G} {cy : Nat → ClassId} {G : Gm} {v0 : Nat} {v2 : Int32} {S : St} {Q : Int32 → St → Prop} (C : CX p s m args meth c b D cy cX6_reads RX6 3 (some .boolean)) (hE : s.heap.size + 0 ≤ b + G.2.2) (t_v0 : ok G 5 v0) (h : f_X6_reads_37 G v0 Q v2 S) : J p l e rm_X6_reads s m args below meth c b D cy 3 (zI b D cy below args s G Q) 0 0 G S 37 [(0, .ref (b + v0)), (2, .int v2)] [] := by
  obtain ⟨k, h⟩ := h
  exact j_X6_reads_37_n C hE t_v0 k v2 S h
set_option maxHeartbeats 4000000 in
set_option maxRecDepth 100000 in
theorem j_X6_reads {p : Program} {l : Launch} {e : Env} {s : State} {m : MethodId} {args : Array Value} {below : List Frame} {meth : Method} {c : Code} {b : Nat} {D : va_G} {cy : Nat → ClassId} {G : Gm} {v0 : Nat} {v1 : Int32} {S : St} {Q : Int32 → St → Prop} (C : CX p s m args meth c b D cy cX6_reads RX6 3 (some .boolean)) (hE : s.heap.size + 0 ≤ b + G.2.2) (t_v0 : ok G 5 v0) (h : f_X6_reads G v0 v1 Q S) : J p l e rm_X6_reads s m args below meth c b D cy 3 (zI b D cy below args s G Q) 0 0 G S 0 [(0, .ref (b + v0)), (1, .int v1)] [] := by
  unfold f_X6_reads at h
  refine jB C [(.aload_n 0, 1, 0), (.iload_n 1, 1, 0)] 2 [(0, .ref (b + v0)), (1, .int v1)] [.int v1, .ref (b + v0)] (by decide +kernel) rfl rfl ?_
  obtain ⟨z9, h⟩ := h
  refine jPutI C 5 (by decide +kernel : decode cX6_reads 2 = .ok (.putfield 44, 3)) rfl hE t_v0 kX6 8 (by decide) rfl rfl (by decide) rfl wd_283 rfl (nbZ z9) (fbZ z9) ?_
  refine jTopS (fun S1 e_S1 => ?_)
  have h := h S1 e_S1
  refine jB C [(.aload_n 0, 1, 0), (.iconst (-1), 1, (-1))] 7 [(0, .ref (b + v0)), (1, .int v1)] [.int (-1), .ref (b + v0)] (by decide +kernel) rfl rfl ?_
  refine jPutI C 10 (by decide +kernel : decode cX6_reads 7 = .ok (.putfield 24, 3)) rfl hE t_v0 kX6 9 (by decide) rfl rfl (by decide) rfl wd_284 rfl rfl rfl ?_
  refine jTopS (fun S2 e_S2 => ?_)
  have h := h S2 e_S2
  refine jB C [(.aload_n 0, 1, 0), (.iconst 0, 1, 0)] 12 [(0, .ref (b + v0)), (1, .int v1)] [.int 0, .ref (b + v0)] (by decide +kernel) rfl rfl ?_
  refine jPutI C 15 (by decide +kernel : decode cX6_reads 12 = .ok (.putfield 48, 3)) rfl hE t_v0 kX6 7 (by decide) rfl rfl (by decide) rfl wd_282 rfl rfl rfl ?_
  refine jTopS (fun S3 e_S3 => ?_)
  have h := h S3 e_S3
  refine jB C [(.aload_n 0, 1, 0), (.iconst 0, 1, 0)] 17 [(0, .ref (b + v0)), (1, .int v1)] [.int 0, .ref (b + v0)] (by decide +kernel) rfl rfl ?_
  refine jPutI C 20 (by decide +kernel : decode cX6_reads 17 = .ok (.putfield 51, 3)) rfl hE t_v0 kX6 6 (by decide) rfl rfl (by decide) rfl wd_281 rfl rfl rfl ?_
  refine jTopS (fun S4 e_S4 => ?_)
  have h := h S4 e_S4
  refine jB C [(.aload_n 0, 1, 0)] 21 [(0, .ref (b + v0)), (1, .int v1)] [.ref (b + v0)] (by decide +kernel) rfl rfl ?_
  obtain ⟨a5, e_a5, h⟩ := h
  refine jGetR C 24 (by decide +kernel : decode cX6_reads 21 = .ok (.getfield 33, 3)) rfl t_v0 kX6 10 (by decide) rfl rfl (by decide) wd_286 e_a5 rfl (fun t_a5 => ?_)
  refine jcVN_V C 27 (rest := []) (ok_X8_empty t_a5 h) (by decide +kernel : decode cX6_reads 24 = .ok (.invokevirtual 54, 3)) rfl wn_591 wd_593 wp_34 wd_10 wd_594 ⟨rfl, rfl⟩ hd_X8_empty ⟨Nat.le_of_ble_eq_true rfl, Nat.le_of_ble_eq_true rfl⟩ t_a5 kX8 (by decide) rfl rfl rfl (Nat.le_of_ble_eq_true rfl) ⟨Nat.zero_le _, Nat.zero_le _⟩ (fun S6 h => ?_)
  refine jB C [(.aload_n 0, 1, 0)] 28 [(0, .ref (b + v0)), (1, .int v1)] [.ref (b + v0)] (by decide +kernel) rfl rfl ?_
  refine jcV_V C 31 (rest := []) (ok_X6_split t_v0 h) (by decide +kernel : decode cX6_reads 28 = .ok (.invokevirtual 57, 3)) rfl wd_595 wd_597 wp_35 wd_9 wd_598 ⟨rfl, rfl⟩ hd_X6_split ⟨Nat.le_of_ble_eq_true rfl, Nat.le_of_ble_eq_true rfl⟩ t_v0 kX6 (by decide) rfl rfl rfl (Nat.le_of_ble_eq_true rfl) ⟨Nat.zero_le _, Nat.zero_le _⟩ (fun S7 h => ?_)
  refine jB C [(.aload_n 0, 1, 0)] 32 [(0, .ref (b + v0)), (1, .int v1)] [.ref (b + v0)] (by decide +kernel) rfl rfl ?_
  refine jcV_V C 35 (rest := []) (ok_X6_clause t_v0 h) (by decide +kernel : decode cX6_reads 32 = .ok (.invokevirtual 60, 3)) rfl wd_672 wd_674 wp_41 wd_9 wd_675 ⟨rfl, rfl⟩ hd_X6_clause ⟨Nat.le_of_ble_eq_true rfl, Nat.le_of_ble_eq_true rfl⟩ t_v0 kX6 (by decide) rfl rfl rfl (Nat.le_of_ble_eq_true rfl) ⟨Nat.zero_le _, Nat.zero_le _⟩ (fun S8 h => ?_)
  refine jB C [(.iconst 1, 1, 1), (.istore_n 2, 1, 0)] 37 [(2, .int 1), (0, .ref (b + v0)), (1, .int v1)] [] (by decide +kernel) rfl rfl ?_
  refine jSub [1, 0] rfl ?_
  exact j_X6_reads_37 C hE t_v0 h
theorem ok_X6_reads {G : Gm} {v0 : Nat} {v1 : Int32} {S : St} {Q : Int32 → St → Prop}  (t_v0 : ok G 5 v0) (h : f_X6_reads G v0 v1 Q S) : MT yX6_reads cX6_reads 3 (some .boolean) rm_X6_reads 0 0 (fun b => [.ref (b + v0), .int v1]) G S (QI (fun r G1 S1 => G1 = G ∧ Q r S1)) := MT.ofJ (by decide +kernel) (fun b => [(0, .ref (b + v0)), (1, .int v1)]) (fun b => rfl) (fun b => Nat.le_of_ble_eq_true rfl) (fun l b D cy p e s m below meth c C hE hn => j_X6_reads C hE t_v0 h)
theorem hd_X6_reads : yX6_reads.cls ≠ "java/lang/invoke/MethodHandle" ∧ yX6_reads.cls ≠ "java/lang/invoke/VarHandle" ∧ (parseMethodDescriptor yX6_reads.desc).map (fun d => d.parameters.length) = some 1 := by decide +kernel
abbrev rm_X8_copy : Room := { frames := 3, cells := 6, slots := 891, locals := 75 }
set_option maxHeartbeats 4000000 in
set_option maxRecDepth 100000 in
theorem j_X8_copy {p : Program} {l : Launch} {e : Env} {s : State} {m : MethodId} {args : Array Value} {below : List Frame} {meth : Method} {c : Code} {b : Nat} {D : va_G} {cy : Nat → ClassId} {G : Gm} {G0 : Gm} {v0 : Nat} {S : St} {Q : Option Nat → Gm → St → Prop} (C : CX p s m args meth c b D cy cX8_copy RX8 2 (some (.object "SinLenses$Text"))) (hI : s.heap.size + 0 ≤ b + G0.2.2) (hin : meth.name = yX8_copy.name) (hE : s.heap.size + 0 ≤ b + G.2.2) (hX : ext G0 G) (hN : G.2.2 = G0.2.2 + 0) (t_v0 : ok G 7 v0) (h : f_X8_copy G v0 Q S) : J p l e rm_X8_copy s m args below meth c b D cy 2 (MQ below (QO (fun r G1 S1 => (ext G0 G1 ∧ G1.2.2 = G0.2.2 + 6) ∧ Q r G1 S1) b D cy) args s 6 891 (fun q => b ≤ q)) 0 0 G S 0 [(0, .ref (b + v0))] [] := by
  unfold f_X8_copy at h
  refine jNew C 3 (by decide +kernel : decode cX8_copy 0 = .ok (.new 14, 3)) rfl hE kX8 (by decide) dfX8 wd_762 wd_235 wd_10 (Nat.le_of_ble_eq_true rfl) (Nat.le_of_ble_eq_true rfl) (fun a1 G2 S3 e_a1 e_G2 e_S3 => ?_)
  have h := h a1 e_a1 G2 e_G2 S3 e_S3
  have X4 : ext G G2 := by rw [e_G2]; exact ext.new
  have N5 : G2.2.2 = G.2.2 + 1 := by rw [e_G2]; rfl
  have X7 := hX.tr X4
  have N8 : G2.2.2 = G0.2.2 + 1 := by omega
  have E6 : s.heap.size + 1 ≤ b + G2.2.2 := by omega
  have t_a1 : ok G2 7 a1 := by rw [e_G2, e_a1]; exact ok_new
  refine jB C [(.dup, 1, 0), (.aload_n 0, 1, 0)] 5 [(0, .ref (b + v0))] [.ref (b + v0), .ref (b + a1), .ref (b + a1)] (by decide +kernel) rfl rfl ?_
  refine jGetI C 8 (by decide +kernel : decode cX8_copy 5 = .ok (.getfield 31, 3)) rfl (X4.ok t_v0) kX8 5 (by decide) rfl rfl (by decide) wd_255 ?_
  refine jB C [(.aload_n 0, 1, 0)] 9 [(0, .ref (b + v0))] [.ref (b + v0), .int (S3.1 v0 5), .ref (b + a1), .ref (b + a1)] (by decide +kernel) rfl rfl ?_
  refine jGetI C 12 (by decide +kernel : decode cX8_copy 9 = .ok (.getfield 35, 3)) rfl (X4.ok t_v0) kX8 6 (by decide) rfl rfl (by decide) wd_258 ?_
  refine jCallI_V C 15 (rest := [.ref (b + a1)]) (ok_X8_init t_a1 h) (by decide +kernel : decode cX8_copy 12 = .ok (.invokespecial 38, 3)) rfl wd_763 wd_237 rfl wd_10 wd_238 ⟨rfl, rfl⟩ hd_X8_init ⟨Nat.le_of_ble_eq_true rfl, Nat.le_of_ble_eq_true rfl⟩ rfl rfl rfl (Nat.le_of_ble_eq_true rfl) ⟨Nat.le_of_ble_eq_true rfl, Nat.le_of_ble_eq_true rfl⟩ (fun G9 S10 h => ?_)
  obtain ⟨⟨X12, N13⟩, h⟩ := h
  have X14 := X12
  have N15 : G9.2.2 = G2.2.2 + 5 := N13
  have X17 := X7.tr X14
  have N18 : G9.2.2 = G0.2.2 + 6 := by omega
  have E16 : s.heap.size + 6 ≤ b + G9.2.2 := by omega
  refine jB C [(.astore_n 1, 1, 0), (.aload_n 1, 1, 0), (.aload_n 0, 1, 0)] 18 [(1, .ref (b + a1)), (0, .ref (b + v0))] [.ref (b + v0), .ref (b + a1)] (by decide +kernel) rfl rfl ?_
  refine jGetI C 21 (by decide +kernel : decode cX8_copy 18 = .ok (.getfield 31, 3)) rfl (X14.ok (X4.ok t_v0)) kX8 5 (by decide) rfl rfl (by decide) wd_255 ?_
  refine jPutI C 24 (by decide +kernel : decode cX8_copy 21 = .ok (.putfield 31, 3)) rfl E16 (X14.ok t_a1) kX8 5 (by decide) rfl rfl (by decide) rfl wd_255 rfl rfl rfl ?_
  refine jTopS (fun S19 e_S19 => ?_)
  have h := h S19 e_S19
  refine jB C [(.aload_n 1, 1, 0), (.aload_n 0, 1, 0)] 26 [(1, .ref (b + a1)), (0, .ref (b + v0))] [.ref (b + v0), .ref (b + a1)] (by decide +kernel) rfl rfl ?_
  refine jGetI C 29 (by decide +kernel : decode cX8_copy 26 = .ok (.getfield 35, 3)) rfl (X14.ok (X4.ok t_v0)) kX8 6 (by decide) rfl rfl (by decide) wd_258 ?_
  refine jPutI C 32 (by decide +kernel : decode cX8_copy 29 = .ok (.putfield 35, 3)) rfl E16 (X14.ok t_a1) kX8 6 (by decide) rfl rfl (by decide) rfl wd_258 rfl rfl rfl ?_
  refine jTopS (fun S20 e_S20 => ?_)
  have h := h S20 e_S20
  refine jB C [(.aload_n 0, 1, 0)] 33 [(1, .ref (b + a1)), (0, .ref (b + v0))] [.ref (b + v0)] (by decide +kernel) rfl rfl ?_
  obtain ⟨a21, e_a21, h⟩ := h
  refine jGetR C 36 (by decide +kernel : decode cX8_copy 33 = .ok (.getfield 13, 3)) rfl (X14.ok (X4.ok t_v0)) kX8 0 (by decide) rfl rfl (by decide) wd_249 e_a21 rfl (fun t_a21 => ?_)
  refine jB C [(.iconst 0, 1, 0), (.aload_n 1, 1, 0)] 38 [(1, .ref (b + a1)), (0, .ref (b + v0))] [.ref (b + a1), .int 0, .ref (b + a21)] (by decide +kernel) rfl rfl ?_
  obtain ⟨a22, e_a22, h⟩ := h
  refine jGetR C 41 (by decide +kernel : decode cX8_copy 38 = .ok (.getfield 13, 3)) rfl (X14.ok t_a1) kX8 0 (by decide) rfl rfl (by decide) wd_249 e_a22 rfl (fun t_a22 => ?_)
  refine jB C [(.iconst 0, 1, 0), (.aload_n 0, 1, 0)] 43 [(1, .ref (b + a1)), (0, .ref (b + v0))] [.ref (b + v0), .int 0, .ref (b + a22), .int 0, .ref (b + a21)] (by decide +kernel) rfl rfl ?_
  refine jGetI C 46 (by decide +kernel : decode cX8_copy 43 = .ok (.getfield 31, 3)) rfl (X14.ok (X4.ok t_v0)) kX8 5 (by decide) rfl rfl (by decide) wd_255 ?_
  obtain ⟨y23, h⟩ := h
  refine jCopy C 49 (by decide +kernel : decode cX8_copy 46 = .ok (.invokestatic 41, 3)) rfl E16 t_a21 t_a22 y23 wd_764 (Nat.le_of_ble_eq_true rfl) (Nat.le_of_ble_eq_true rfl) (Nat.le_of_ble_eq_true rfl) ?_
  refine jTopS (fun S24 e_S24 => ?_)
  have h := h S24 e_S24
  refine jB C [(.aload_n 0, 1, 0)] 50 [(1, .ref (b + a1)), (0, .ref (b + v0))] [.ref (b + v0)] (by decide +kernel) rfl rfl ?_
  obtain ⟨a25, e_a25, h⟩ := h
  refine jGetR C 53 (by decide +kernel : decode cX8_copy 50 = .ok (.getfield 19, 3)) rfl (X14.ok (X4.ok t_v0)) kX8 1 (by decide) rfl rfl (by decide) wd_250 e_a25 rfl (fun t_a25 => ?_)
  refine jB C [(.iconst 0, 1, 0), (.aload_n 1, 1, 0)] 55 [(1, .ref (b + a1)), (0, .ref (b + v0))] [.ref (b + a1), .int 0, .ref (b + a25)] (by decide +kernel) rfl rfl ?_
  obtain ⟨a26, e_a26, h⟩ := h
  refine jGetR C 58 (by decide +kernel : decode cX8_copy 55 = .ok (.getfield 19, 3)) rfl (X14.ok t_a1) kX8 1 (by decide) rfl rfl (by decide) wd_250 e_a26 rfl (fun t_a26 => ?_)
  refine jB C [(.iconst 0, 1, 0), (.aload_n 0, 1, 0)] 60 [(1, .ref (b + a1)), (0, .ref (b + v0))] [.ref (b + v0), .int 0, .ref (b + a26), .int 0, .ref (b + a25)] (by decide +kernel) rfl rfl ?_
  refine jGetI C 63 (by decide +kernel : decode cX8_copy 60 = .ok (.getfield 31, 3)) rfl (X14.ok (X4.ok t_v0)) kX8 5 (by decide) rfl rfl (by decide) wd_255 ?_
  obtain ⟨y27, h⟩ := h
  refine jCopy C 66 (by decide +kernel : decode cX8_copy 63 = .ok (.invokestatic 41, 3)) rfl E16 t_a25 t_a26 y27 wd_764 (Nat.le_of_ble_eq_true rfl) (Nat.le_of_ble_eq_true rfl) (Nat.le_of_ble_eq_true rfl) ?_
  refine jTopS (fun S28 e_S28 => ?_)
  have h := h S28 e_S28
  refine jB C [(.aload_n 0, 1, 0)] 67 [(1, .ref (b + a1)), (0, .ref (b + v0))] [.ref (b + v0)] (by decide +kernel) rfl rfl ?_
  obtain ⟨a29, e_a29, h⟩ := h
  refine jGetR C 70 (by decide +kernel : decode cX8_copy 67 = .ok (.getfield 22, 3)) rfl (X14.ok (X4.ok t_v0)) kX8 2 (by decide) rfl rfl (by decide) wd_251 e_a29 rfl (fun t_a29 => ?_)
  refine jB C [(.iconst 0, 1, 0), (.aload_n 1, 1, 0)] 72 [(1, .ref (b + a1)), (0, .ref (b + v0))] [.ref (b + a1), .int 0, .ref (b + a29)] (by decide +kernel) rfl rfl ?_
  obtain ⟨a30, e_a30, h⟩ := h
  refine jGetR C 75 (by decide +kernel : decode cX8_copy 72 = .ok (.getfield 22, 3)) rfl (X14.ok t_a1) kX8 2 (by decide) rfl rfl (by decide) wd_251 e_a30 rfl (fun t_a30 => ?_)
  refine jB C [(.iconst 0, 1, 0), (.aload_n 0, 1, 0)] 77 [(1, .ref (b + a1)), (0, .ref (b + v0))] [.ref (b + v0), .int 0, .ref (b + a30), .int 0, .ref (b + a29)] (by decide +kernel) rfl rfl ?_
  refine jGetI C 80 (by decide +kernel : decode cX8_copy 77 = .ok (.getfield 31, 3)) rfl (X14.ok (X4.ok t_v0)) kX8 5 (by decide) rfl rfl (by decide) wd_255 ?_
  obtain ⟨y31, h⟩ := h
  refine jCopy C 83 (by decide +kernel : decode cX8_copy 80 = .ok (.invokestatic 41, 3)) rfl E16 t_a29 t_a30 y31 wd_764 (Nat.le_of_ble_eq_true rfl) (Nat.le_of_ble_eq_true rfl) (Nat.le_of_ble_eq_true rfl) ?_
  refine jTopS (fun S32 e_S32 => ?_)
  have h := h S32 e_S32
  refine jB C [(.aload_n 0, 1, 0)] 84 [(1, .ref (b + a1)), (0, .ref (b + v0))] [.ref (b + v0)] (by decide +kernel) rfl rfl ?_
  obtain ⟨a33, e_a33, h⟩ := h
  refine jGetR C 87 (by decide +kernel : decode cX8_copy 84 = .ok (.getfield 25, 3)) rfl (X14.ok (X4.ok t_v0)) kX8 3 (by decide) rfl rfl (by decide) wd_252 e_a33 rfl (fun t_a33 => ?_)
  refine jB C [(.iconst 0, 1, 0), (.aload_n 1, 1, 0)] 89 [(1, .ref (b + a1)), (0, .ref (b + v0))] [.ref (b + a1), .int 0, .ref (b + a33)] (by decide +kernel) rfl rfl ?_
  obtain ⟨a34, e_a34, h⟩ := h
  refine jGetR C 92 (by decide +kernel : decode cX8_copy 89 = .ok (.getfield 25, 3)) rfl (X14.ok t_a1) kX8 3 (by decide) rfl rfl (by decide) wd_252 e_a34 rfl (fun t_a34 => ?_)
  refine jB C [(.iconst 0, 1, 0), (.aload_n 0, 1, 0)] 94 [(1, .ref (b + a1)), (0, .ref (b + v0))] [.ref (b + v0), .int 0, .ref (b + a34), .int 0, .ref (b + a33)] (by decide +kernel) rfl rfl ?_
  refine jGetI C 97 (by decide +kernel : decode cX8_copy 94 = .ok (.getfield 31, 3)) rfl (X14.ok (X4.ok t_v0)) kX8 5 (by decide) rfl rfl (by decide) wd_255 ?_
  refine jB C [(.iconst 4, 1, 4), (.imul, 1, 0)] 99 [(1, .ref (b + a1)), (0, .ref (b + v0))] [.int ((S32.1 v0 5) * 4), .int 0, .ref (b + a34), .int 0, .ref (b + a33)] (by decide +kernel) rfl rfl ?_
  obtain ⟨y35, h⟩ := h
  refine jCopy C 102 (by decide +kernel : decode cX8_copy 99 = .ok (.invokestatic 41, 3)) rfl E16 t_a33 t_a34 y35 wd_764 (Nat.le_of_ble_eq_true rfl) (Nat.le_of_ble_eq_true rfl) (Nat.le_of_ble_eq_true rfl) ?_
  refine jTopS (fun S36 e_S36 => ?_)
  have h := h S36 e_S36
  refine jB C [(.aload_n 0, 1, 0)] 103 [(1, .ref (b + a1)), (0, .ref (b + v0))] [.ref (b + v0)] (by decide +kernel) rfl rfl ?_
  obtain ⟨a37, e_a37, h⟩ := h
  refine jGetR C 106 (by decide +kernel : decode cX8_copy 103 = .ok (.getfield 28, 3)) rfl (X14.ok (X4.ok t_v0)) kX8 4 (by decide) rfl rfl (by decide) wd_253 e_a37 rfl (fun t_a37 => ?_)
  refine jB C [(.iconst 0, 1, 0), (.aload_n 1, 1, 0)] 108 [(1, .ref (b + a1)), (0, .ref (b + v0))] [.ref (b + a1), .int 0, .ref (b + a37)] (by decide +kernel) rfl rfl ?_
  obtain ⟨a38, e_a38, h⟩ := h
  refine jGetR C 111 (by decide +kernel : decode cX8_copy 108 = .ok (.getfield 28, 3)) rfl (X14.ok t_a1) kX8 4 (by decide) rfl rfl (by decide) wd_253 e_a38 rfl (fun t_a38 => ?_)
  refine jB C [(.iconst 0, 1, 0), (.aload_n 0, 1, 0)] 113 [(1, .ref (b + a1)), (0, .ref (b + v0))] [.ref (b + v0), .int 0, .ref (b + a38), .int 0, .ref (b + a37)] (by decide +kernel) rfl rfl ?_
  refine jGetI C 116 (by decide +kernel : decode cX8_copy 113 = .ok (.getfield 35, 3)) rfl (X14.ok (X4.ok t_v0)) kX8 6 (by decide) rfl rfl (by decide) wd_258 ?_
  obtain ⟨y39, h⟩ := h
  refine jCopy C 119 (by decide +kernel : decode cX8_copy 116 = .ok (.invokestatic 41, 3)) rfl E16 t_a37 t_a38 y39 wd_764 (Nat.le_of_ble_eq_true rfl) (Nat.le_of_ble_eq_true rfl) (Nat.le_of_ble_eq_true rfl) ?_
  refine jTopS (fun S40 e_S40 => ?_)
  have h := h S40 e_S40
  refine jB C [(.aload_n 1, 1, 0)] 120 [(1, .ref (b + a1)), (0, .ref (b + v0))] [.ref (b + a1)] (by decide +kernel) rfl rfl ?_
  exact jRetO C (r := (some a1)) (by decide +kernel : decode cX8_copy 120 = .ok (.areturn, 1)) (Nat.le_of_ble_eq_true rfl) (Nat.le_of_ble_eq_true rfl) ⟨⟨X17, N18⟩, h⟩
theorem ok_X8_copy {G : Gm} {v0 : Nat} {S : St} {Q : Option Nat → Gm → St → Prop}  (t_v0 : ok G 7 v0) (h : f_X8_copy G v0 Q S) : MT yX8_copy cX8_copy 2 (some (.object "SinLenses$Text")) rm_X8_copy 6 891 (fun b => [.ref (b + v0)]) G S (QO (fun r G1 S1 => (ext G G1 ∧ G1.2.2 = G.2.2 + 6) ∧ Q r G1 S1)) := MT.ofJ (by decide +kernel) (fun b => [(0, .ref (b + v0))]) (fun b => rfl) (fun b => Nat.le_of_ble_eq_true rfl) (fun l b D cy p e s m below meth c C hE hn => j_X8_copy C hE hn hE ext.rf rfl t_v0 h)
theorem hd_X8_copy : yX8_copy.cls ≠ "java/lang/invoke/MethodHandle" ∧ yX8_copy.cls ≠ "java/lang/invoke/VarHandle" ∧ (parseMethodDescriptor yX8_copy.desc).map (fun d => d.parameters.length) = some 0 := by decide +kernel
abbrev rm_X5_addLaw : Room := { frames := 0, cells := 0, slots := 0, locals := 0 }
set_option maxHeartbeats 4000000 in
set_option maxRecDepth 100000 in
theorem j_X5_addLaw {p : Program} {l : Launch} {e : Env} {s : State} {m : MethodId} {args : Array Value} {below : List Frame} {meth : Method} {c : Code} {b : Nat} {D : va_G} {cy : Nat → ClassId} {G : Gm} {v0 : Nat} {v1 : Nat} {S : St} {Q : Int32 → St → Prop} (C : CX p s m args meth c b D cy cX5_addLaw RX5 2 (some .int)) (hE : s.heap.size + 0 ≤ b + G.2.2) (t_v0 : ok G 4 v0) (t_v1 : ok G 7 v1) (h : f_X5_addLaw G v0 v1 Q S) : J p l e rm_X5_addLaw s m args below meth c b D cy 2 (zI b D cy below args s G Q) 0 0 G S 0 [(0, .ref (b + v0)), (1, .ref (b + v1))] [] := by
  unfold f_X5_addLaw at h
  refine jB C [(.aload_n 0, 1, 0)] 1 [(0, .ref (b + v0)), (1, .ref (b + v1))] [.ref (b + v0)] (by decide +kernel) rfl rfl ?_
  refine jGetI C 4 (by decide +kernel : decode cX5_addLaw 1 = .ok (.getfield 52, 3)) rfl t_v0 kX5 8 (by decide) rfl rfl (by decide) wd_53 ?_
  refine jIf_lt C 7 16 (by decide +kernel : decode cX5_addLaw 4 = .ok (.ifCond .lt 12, 3)) rfl rfl (fun c1 => ?_) (fun c1 => ?_)
  · have h := it1 h c1
    refine jB C [(.iconst (-1), 1, (-1))] 17 [(0, .ref (b + v0)), (1, .ref (b + v1))] [.int (-1)] (by decide +kernel) rfl rfl ?_
    exact jRetI C (by decide +kernel : decode cX5_addLaw 17 = .ok (.ireturn, 1)) (Nat.le_refl _) (Nat.le_refl _) ⟨rfl, h⟩
  · have h := it2 h c1
    refine jB C [(.aload_n 0, 1, 0)] 8 [(0, .ref (b + v0)), (1, .ref (b + v1))] [.ref (b + v0)] (by decide +kernel) rfl rfl ?_
    refine jGetI C 11 (by decide +kernel : decode cX5_addLaw 8 = .ok (.getfield 52, 3)) rfl t_v0 kX5 8 (by decide) rfl rfl (by decide) wd_53 ?_
    refine jB C [(.bipush 6, 2, 6)] 13 [(0, .ref (b + v0)), (1, .ref (b + v1))] [.int 6, .int (S.1 v0 8)] (by decide +kernel) rfl rfl ?_
    refine jIcmp_lt C 16 18 (by decide +kernel : decode cX5_addLaw 13 = .ok (.if_icmp .lt 5, 3)) rfl rfl (fun c2 => ?_) (fun c2 => ?_)
    · have h := it1 h c2
      refine jB C [(.aload_n 0, 1, 0)] 19 [(0, .ref (b + v0)), (1, .ref (b + v1))] [.ref (b + v0)] (by decide +kernel) rfl rfl ?_
      obtain ⟨a3, e_a3, h⟩ := h
      refine jGetR C 22 (by decide +kernel : decode cX5_addLaw 19 = .ok (.getfield 32, 3)) rfl t_v0 kX5 9 (by decide) rfl rfl (by decide) wd_55 e_a3 rfl (fun t_a3 => ?_)
      refine jB C [(.aload_n 0, 1, 0)] 23 [(0, .ref (b + v0)), (1, .ref (b + v1))] [.ref (b + v0), .ref (b + a3)] (by decide +kernel) rfl rfl ?_
      refine jGetI C 26 (by decide +kernel : decode cX5_addLaw 23 = .ok (.getfield 52, 3)) rfl t_v0 kX5 8 (by decide) rfl rfl (by decide) wd_53 ?_
      refine jB C [(.aload_n 1, 1, 0)] 27 [(0, .ref (b + v0)), (1, .ref (b + v1))] [.ref (b + v1), .int (S.1 v0 8), .ref (b + a3)] (by decide +kernel) rfl rfl ?_
      obtain ⟨y4, h⟩ := h
      refine jAast15 C 28 (by decide +kernel : decode cX5_addLaw 27 = .ok (.aastore, 1)) rfl hE t_a3 y4 t_v1 ?_
      refine jTopS (fun S5 e_S5 => ?_)
      have h := h S5 e_S5
      refine jB C [(.aload_n 0, 1, 0), (.dup, 1, 0)] 30 [(0, .ref (b + v0)), (1, .ref (b + v1))] [.ref (b + v0), .ref (b + v0)] (by decide +kernel) rfl rfl ?_
      refine jGetI C 33 (by decide +kernel : decode cX5_addLaw 30 = .ok (.getfield 52, 3)) rfl t_v0 kX5 8 (by decide) rfl rfl (by decide) wd_53 ?_
      refine jB C [(.iconst 1, 1, 1), (.iadd, 1, 0)] 35 [(0, .ref (b + v0)), (1, .ref (b + v1))] [.int ((S5.1 v0 8) + 1), .ref (b + v0)] (by decide +kernel) rfl rfl ?_
      refine jPutI C 38 (by decide +kernel : decode cX5_addLaw 35 = .ok (.putfield 52, 3)) rfl hE t_v0 kX5 8 (by decide) rfl rfl (by decide) rfl wd_53 rfl rfl rfl ?_
      refine jTopS (fun S6 e_S6 => ?_)
      have h := h S6 e_S6
      refine jB C [(.aload_n 0, 1, 0)] 39 [(0, .ref (b + v0)), (1, .ref (b + v1))] [.ref (b + v0)] (by decide +kernel) rfl rfl ?_
      refine jGetI C 42 (by decide +kernel : decode cX5_addLaw 39 = .ok (.getfield 52, 3)) rfl t_v0 kX5 8 (by decide) rfl rfl (by decide) wd_53 ?_
      refine jB C [(.iconst 1, 1, 1), (.isub, 1, 0)] 44 [(0, .ref (b + v0)), (1, .ref (b + v1))] [.int ((S6.1 v0 8) - 1)] (by decide +kernel) rfl rfl ?_
      exact jRetI C (by decide +kernel : decode cX5_addLaw 44 = .ok (.ireturn, 1)) (Nat.le_refl _) (Nat.le_refl _) ⟨rfl, h⟩
    · have h := it2 h c2
      refine jB C [(.iconst (-1), 1, (-1))] 17 [(0, .ref (b + v0)), (1, .ref (b + v1))] [.int (-1)] (by decide +kernel) rfl rfl ?_
      exact jRetI C (by decide +kernel : decode cX5_addLaw 17 = .ok (.ireturn, 1)) (Nat.le_refl _) (Nat.le_refl _) ⟨rfl, h⟩
theorem ok_X5_addLaw {G : Gm} {v0 : Nat} {v1 : Nat} {S : St} {Q : Int32 → St → Prop}  (t_v0 : ok G 4 v0) (t_v1 : ok G 7 v1) (h : f_X5_addLaw G v0 v1 Q S) : MT yX5_addLaw cX5_addLaw 2 (some .int) rm_X5_addLaw 0 0 (fun b => [.ref (b + v0), .ref (b + v1)]) G S (QI (fun r G1 S1 => G1 = G ∧ Q r S1)) := MT.ofJ (by decide +kernel) (fun b => [(0, .ref (b + v0)), (1, .ref (b + v1))]) (fun b => rfl) (fun b => Nat.le_of_ble_eq_true rfl) (fun l b D cy p e s m below meth c C hE hn => j_X5_addLaw C hE t_v0 t_v1 h)
theorem hd_X5_addLaw : yX5_addLaw.cls ≠ "java/lang/invoke/MethodHandle" ∧ yX5_addLaw.cls ≠ "java/lang/invoke/VarHandle" ∧ (parseMethodDescriptor yX5_addLaw.desc).map (fun d => d.parameters.length) = some 1 := by decide +kernel
abbrev rm_X10_law : Room := { frames := 73, cells := 6, slots := 891, locals := 2366 }
set_option maxHeartbeats 4000000 in
set_option maxRecDepth 100000 in
theorem j_X10_law {p : Program} {l : Launch} {e : Env} {s : State} {m : MethodId} {args : Array Value} {below : List Frame} {meth : Method} {c : Code} {b : Nat} {D : va_G} {cy : Nat → ClassId} {G : Gm} {G0 : Gm} {v0 : Nat} {S : St} {Q : Int32 → Gm → St → Prop} (C : CX p s m args meth c b D cy cX10_law RX10 1 (some .int)) (hI : s.heap.size + 0 ≤ b + G0.2.2) (hin : meth.name = yX10_law.name) (hE : s.heap.size + 0 ≤ b + G.2.2) (hX : ext G0 G) (hN : G.2.2 = G0.2.2 + 0) (t_v0 : ok G 9 v0) (h : f_X10_law G v0 Q S) : J p l e rm_X10_law s m args below meth c b D cy 1 (MQ below (QI (fun r G1 S1 => ext G0 G1 ∧ Q r G1 S1) b D cy) args s 6 891 (fun q => b ≤ q)) 0 0 G S 0 [(0, .ref (b + v0))] [] := by
  unfold f_X10_law at h
  refine jB C [(.aload_n 0, 1, 0)] 1 [(0, .ref (b + v0))] [.ref (b + v0)] (by decide +kernel) rfl rfl ?_
  obtain ⟨a1, e_a1, h⟩ := h
  refine jGetR C 4 (by decide +kernel : decode cX10_law 1 = .ok (.getfield 14, 3)) rfl t_v0 kX10 0 (by decide) rfl rfl (by decide) wd_311 e_a1 rfl (fun t_a1 => ?_)
  refine jGetIN C 7 (by decide +kernel : decode cX10_law 4 = .ok (.getfield 190, 3)) rfl t_a1 kX5 8 (by decide) rfl rfl (by decide) wn_54 ?_
  refine jB C [(.bipush 6, 2, 6)] 9 [(0, .ref (b + v0))] [.int 6, .int (S.1 a1 8)] (by decide +kernel) rfl rfl ?_
  refine jIcmp_lt C 12 27 (by decide +kernel : decode cX10_law 9 = .ok (.if_icmp .lt 18, 3)) rfl rfl (fun c2 => ?_) (fun c2 => ?_)
  · have h := it1 h c2
    refine jB C [(.aload_n 0, 1, 0)] 28 [(0, .ref (b + v0))] [.ref (b + v0)] (by decide +kernel) rfl rfl ?_
    obtain ⟨a3, e_a3, h⟩ := h
    refine jGetR C 31 (by decide +kernel : decode cX10_law 28 = .ok (.getfield 63, 3)) rfl t_v0 kX10 8 (by decide) rfl rfl (by decide) wd_319 e_a3 rfl (fun t_a3 => ?_)
    refine jB C [(.iconst 1, 1, 1)] 32 [(0, .ref (b + v0))] [.int 1, .ref (b + a3)] (by decide +kernel) rfl rfl ?_
    refine jcVN_I C 35 (rest := []) (ok_X6_reads t_a3 h) (by decide +kernel : decode cX10_law 32 = .ok (.invokevirtual 193, 3)) rfl wn_587 wd_589 wp_33 wd_9 wd_590 ⟨rfl, rfl⟩ hd_X6_reads ⟨Nat.le_of_ble_eq_true rfl, Nat.le_of_ble_eq_true rfl⟩ t_a3 kX6 (by decide) rfl rfl rfl (Nat.le_of_ble_eq_true rfl) ⟨Nat.le_of_ble_eq_true rfl, Nat.le_of_ble_eq_true rfl⟩ (fun r5 S4 h => ?_)
    refine jIf_ne C 38 45 (by decide +kernel : decode cX10_law 35 = .ok (.ifCond .ne 10, 3)) rfl rfl (fun c6 => ?_) (fun c6 => ?_)
    · have h := it2 h c6
      refine jB C [(.aload_n 0, 1, 0), (.aload_n 0, 1, 0)] 47 [(0, .ref (b + v0))] [.ref (b + v0), .ref (b + v0)] (by decide +kernel) rfl rfl ?_
      obtain ⟨a7, e_a7, h⟩ := h
      refine jGetR C 50 (by decide +kernel : decode cX10_law 47 = .ok (.getfield 14, 3)) rfl t_v0 kX10 0 (by decide) rfl rfl (by decide) wd_311 e_a7 rfl (fun t_a7 => ?_)
      refine jB C [(.aload_n 0, 1, 0)] 51 [(0, .ref (b + v0))] [.ref (b + v0), .ref (b + a7), .ref (b + v0)] (by decide +kernel) rfl rfl ?_
      obtain ⟨a8, e_a8, h⟩ := h
      refine jGetR C 54 (by decide +kernel : decode cX10_law 51 = .ok (.getfield 63, 3)) rfl t_v0 kX10 8 (by decide) rfl rfl (by decide) wd_319 e_a8 rfl (fun t_a8 => ?_)
      obtain ⟨a9, e_a9, h⟩ := h
      refine jGetRN C 57 (by decide +kernel : decode cX10_law 54 = .ok (.getfield 197, 3)) rfl t_a8 kX6 10 (by decide) rfl rfl (by decide) wn_287 e_a9 rfl (fun t_a9 => ?_)
      refine jCallVN_O C 60 (rest := [.ref (b + a7), .ref (b + v0)]) (ok_X8_copy t_a9 h) (by decide +kernel : decode cX10_law 57 = .ok (.invokevirtual 201, 3)) rfl wn_758 wd_760 wp_60 wd_10 wd_761 ⟨rfl, rfl⟩ hd_X8_copy ⟨Nat.le_of_ble_eq_true rfl, Nat.le_of_ble_eq_true rfl⟩ t_a9 kX8 (by decide) rfl rfl rfl (Nat.le_of_ble_eq_true rfl) ⟨Nat.le_of_ble_eq_true rfl, Nat.le_of_ble_eq_true rfl⟩ (fun r12 G10 S11 h => ?_)
      obtain ⟨⟨X13, N14⟩, a21, rfl, t20, h⟩ := h
      have X15 := X13
      have N16 : G10.2.2 = G.2.2 + 6 := N14
      have X18 := hX.tr X15
      have N19 : G10.2.2 = G0.2.2 + 6 := by omega
      have E17 : s.heap.size + 6 ≤ b + G10.2.2 := by omega
      refine jcVN_I C 63 (rest := [.ref (b + v0)]) (ok_X5_addLaw (X15.ok t_a7) t20 h) (by decide +kernel : decode cX10_law 60 = .ok (.invokevirtual 206, 3)) rfl wn_767 wd_769 wp_61 wd_2 wd_770 ⟨rfl, rfl⟩ hd_X5_addLaw ⟨Nat.le_of_ble_eq_true rfl, Nat.le_of_ble_eq_true rfl⟩ (X15.ok t_a7) kX5 (by decide) rfl rfl rfl (Nat.le_of_ble_eq_true rfl) ⟨Nat.le_of_ble_eq_true rfl, Nat.le_of_ble_eq_true rfl⟩ (fun r23 S22 h => ?_)
      refine jcV_I C 66 (rest := []) (ok_X10_accept (X15.ok t_v0) h) (by decide +kernel : decode cX10_law 63 = .ok (.invokevirtual 89, 3)) rfl wd_387 wd_389 wp_7 wd_1 wd_390 ⟨rfl, rfl⟩ hd_X10_accept ⟨Nat.le_of_ble_eq_true rfl, Nat.le_of_ble_eq_true rfl⟩ (X15.ok t_v0) kX10 (by decide) rfl rfl rfl (Nat.le_of_ble_eq_true rfl) ⟨Nat.le_of_ble_eq_true rfl, Nat.le_of_ble_eq_true rfl⟩ (fun r25 S24 h => ?_)
      exact jRetI C (by decide +kernel : decode cX10_law 66 = .ok (.ireturn, 1)) (Nat.le_of_ble_eq_true rfl) (Nat.le_of_ble_eq_true rfl) ⟨X18, h⟩
    · have h := it1 h c6
      refine jB C [(.aload_n 0, 1, 0), (.bipush (-6), 2, (-6))] 41 [(0, .ref (b + v0))] [.int (-6), .ref (b + v0)] (by decide +kernel) rfl rfl ?_
      refine jcV_I C 44 (rest := []) (ok_X10_refuse t_v0 h) (by decide +kernel : decode cX10_law 41 = .ok (.invokevirtual 78, 3)) rfl wd_355 wd_357 wp_0 wd_1 wd_358 ⟨rfl, rfl⟩ hd_X10_refuse ⟨Nat.le_of_ble_eq_true rfl, Nat.le_of_ble_eq_true rfl⟩ t_v0 kX10 (by decide) rfl rfl rfl (Nat.le_of_ble_eq_true rfl) ⟨Nat.le_of_ble_eq_true rfl, Nat.le_of_ble_eq_true rfl⟩ (fun r27 S26 h => ?_)
      exact jRetI C (by decide +kernel : decode cX10_law 44 = .ok (.ireturn, 1)) (Nat.le_of_ble_eq_true rfl) (Nat.le_of_ble_eq_true rfl) ⟨hX, h⟩
  · have h := it2 h c2
    refine jB C [(.aload_n 0, 1, 0)] 13 [(0, .ref (b + v0))] [.ref (b + v0)] (by decide +kernel) rfl rfl ?_
    obtain ⟨a28, e_a28, h⟩ := h
    refine jGetR C 16 (by decide +kernel : decode cX10_law 13 = .ok (.getfield 63, 3)) rfl t_v0 kX10 8 (by decide) rfl rfl (by decide) wd_319 e_a28 rfl (fun t_a28 => ?_)
    refine jB C [(.iconst 0, 1, 0)] 17 [(0, .ref (b + v0))] [.int 0, .ref (b + a28)] (by decide +kernel) rfl rfl ?_
    refine jPutIN C 20 (by decide +kernel : decode cX10_law 17 = .ok (.putfield 171, 3)) rfl hE t_a28 kX6 1 (by decide) rfl rfl (by decide) rfl wn_276 rfl rfl rfl ?_
    refine jTopS (fun S29 e_S29 => ?_)
    have h := h S29 e_S29
    refine jB C [(.aload_n 0, 1, 0), (.bipush (-5), 2, (-5))] 23 [(0, .ref (b + v0))] [.int (-5), .ref (b + v0)] (by decide +kernel) rfl rfl ?_
    refine jcV_I C 26 (rest := []) (ok_X10_refuse t_v0 h) (by decide +kernel : decode cX10_law 23 = .ok (.invokevirtual 78, 3)) rfl wd_355 wd_357 wp_0 wd_1 wd_358 ⟨rfl, rfl⟩ hd_X10_refuse ⟨Nat.le_of_ble_eq_true rfl, Nat.le_of_ble_eq_true rfl⟩ t_v0 kX10 (by decide) rfl rfl rfl (Nat.le_of_ble_eq_true rfl) ⟨Nat.le_of_ble_eq_true rfl, Nat.le_of_ble_eq_true rfl⟩ (fun r31 S30 h => ?_)
    exact jRetI C (by decide +kernel : decode cX10_law 26 = .ok (.ireturn, 1)) (Nat.le_of_ble_eq_true rfl) (Nat.le_of_ble_eq_true rfl) ⟨hX, h⟩
theorem ok_X10_law {G : Gm} {v0 : Nat} {S : St} {Q : Int32 → Gm → St → Prop}  (t_v0 : ok G 9 v0) (h : f_X10_law G v0 Q S) : MT yX10_law cX10_law 1 (some .int) rm_X10_law 6 891 (fun b => [.ref (b + v0)]) G S (QI (fun r G1 S1 => ext G G1 ∧ Q r G1 S1)) := MT.ofJ (by decide +kernel) (fun b => [(0, .ref (b + v0))]) (fun b => rfl) (fun b => Nat.le_of_ble_eq_true rfl) (fun l b D cy p e s m below meth c C hE hn => j_X10_law C hE hn hE ext.rf rfl t_v0 h)
theorem hd_X10_law : yX10_law.cls ≠ "java/lang/invoke/MethodHandle" ∧ yX10_law.cls ≠ "java/lang/invoke/VarHandle" ∧ (parseMethodDescriptor yX10_law.desc).map (fun d => d.parameters.length) = some 0 := by decide +kernel
abbrev rm_X10_lens : Room := { frames := 1, cells := 0, slots := 0, locals := 23 }
set_option maxHeartbeats 4000000 in
set_option maxRecDepth 100000 in
theorem j_X10_lens {p : Program} {l : Launch} {e : Env} {s : State} {m : MethodId} {args : Array Value} {below : List Frame} {meth : Method} {c : Code} {b : Nat} {D : va_G} {cy : Nat → ClassId} {G : Gm} {v0 : Nat} {v1 : Int32} {v2 : Int32} {S : St} {Q : Int32 → St → Prop} (C : CX p s m args meth c b D cy cX10_lens RX10 3 (some .int)) (hE : s.heap.size + 0 ≤ b + G.2.2) (t_v0 : ok G 9 v0) (h : f_X10_lens G v0 v1 v2 Q S) : J p l e rm_X10_lens s m args below meth c b D cy 3 (zI b D cy below args s G Q) 0 0 G S 0 [(0, .ref (b + v0)), (1, .int v1), (2, .int v2)] [] := by
  unfold f_X10_lens at h
  refine jB C [(.iload_n 1, 1, 0)] 1 [(0, .ref (b + v0)), (1, .int v1), (2, .int v2)] [.int v1] (by decide +kernel) rfl rfl ?_
  refine jcS_I C 4 (rest := []) (ok_X10_isLens h) (by decide +kernel : decode cX10_lens 1 = .ok (.invokestatic 146, 3)) rfl wd_527 wd_528 wd_1 wd_529 ⟨rfl, rfl⟩ hd_X10_isLens ⟨Nat.le_of_ble_eq_true rfl, Nat.le_of_ble_eq_true rfl⟩ rfl rfl (Nat.le_of_ble_eq_true rfl) ⟨Nat.zero_le _, Nat.zero_le _⟩ (fun r2 S1 h => ?_)
  refine jIf_eq C 7 22 (by decide +kernel : decode cX10_lens 4 = .ok (.ifCond .eq 18, 3)) rfl rfl (fun c3 => ?_) (fun c3 => ?_)
  · have h := it1 h c3
    refine jB C [(.iconst (-1), 1, (-1))] 23 [(0, .ref (b + v0)), (1, .int v1), (2, .int v2)] [.int (-1)] (by decide +kernel) rfl rfl ?_
    exact jRetI C (by decide +kernel : decode cX10_lens 23 = .ok (.ireturn, 1)) (Nat.le_refl _) (Nat.le_refl _) ⟨rfl, h⟩
  · have h := it2 h c3
    refine jB C [(.iload_n 2, 1, 0)] 8 [(0, .ref (b + v0)), (1, .int v1), (2, .int v2)] [.int v2] (by decide +kernel) rfl rfl ?_
    refine jcS_I C 11 (rest := []) (ok_X10_isNumber h) (by decide +kernel : decode cX10_lens 8 = .ok (.invokestatic 149, 3)) rfl wd_530 wd_531 wd_1 wd_532 ⟨rfl, rfl⟩ hd_X10_isNumber ⟨Nat.le_of_ble_eq_true rfl, Nat.le_of_ble_eq_true rfl⟩ rfl rfl (Nat.le_of_ble_eq_true rfl) ⟨Nat.zero_le _, Nat.zero_le _⟩ (fun r5 S4 h => ?_)
    refine jIf_eq C 14 22 (by decide +kernel : decode cX10_lens 11 = .ok (.ifCond .eq 11, 3)) rfl rfl (fun c6 => ?_) (fun c6 => ?_)
    · have h := it1 h c6
      refine jB C [(.iconst (-1), 1, (-1))] 23 [(0, .ref (b + v0)), (1, .int v1), (2, .int v2)] [.int (-1)] (by decide +kernel) rfl rfl ?_
      exact jRetI C (by decide +kernel : decode cX10_lens 23 = .ok (.ireturn, 1)) (Nat.le_refl _) (Nat.le_refl _) ⟨rfl, h⟩
    · have h := it2 h c6
      refine jB C [(.iload_n 1, 1, 0), (.iload_n 2, 1, 0)] 16 [(0, .ref (b + v0)), (1, .int v1), (2, .int v2)] [.int v2, .int v1] (by decide +kernel) rfl rfl ?_
      refine jcSN_I C 19 (rest := []) (ok_X3_bend h) (by decide +kernel : decode cX10_lens 16 = .ok (.invokestatic 152, 3)) rfl wn_533 wd_424 wd_13 wd_425 ⟨rfl, rfl⟩ hd_X3_bend ⟨Nat.le_of_ble_eq_true rfl, Nat.le_of_ble_eq_true rfl⟩ rfl rfl (Nat.le_of_ble_eq_true rfl) ⟨Nat.zero_le _, Nat.zero_le _⟩ (fun r8 S7 h => ?_)
      refine jGoto C 23 (by decide +kernel : decode cX10_lens 19 = .ok (.goto 4, 3)) rfl ?_
      exact jRetI C (by decide +kernel : decode cX10_lens 23 = .ok (.ireturn, 1)) (Nat.le_refl _) (Nat.le_refl _) ⟨rfl, h⟩
theorem ok_X10_lens {G : Gm} {v0 : Nat} {v1 : Int32} {v2 : Int32} {S : St} {Q : Int32 → St → Prop}  (t_v0 : ok G 9 v0) (h : f_X10_lens G v0 v1 v2 Q S) : MT yX10_lens cX10_lens 3 (some .int) rm_X10_lens 0 0 (fun b => [.ref (b + v0), .int v1, .int v2]) G S (QI (fun r G1 S1 => G1 = G ∧ Q r S1)) := MT.ofJ (by decide +kernel) (fun b => [(0, .ref (b + v0)), (1, .int v1), (2, .int v2)]) (fun b => rfl) (fun b => Nat.le_of_ble_eq_true rfl) (fun l b D cy p e s m below meth c C hE hn => j_X10_lens C hE t_v0 h)
theorem hd_X10_lens : yX10_lens.cls ≠ "java/lang/invoke/MethodHandle" ∧ yX10_lens.cls ≠ "java/lang/invoke/VarHandle" ∧ (parseMethodDescriptor yX10_lens.desc).map (fun d => d.parameters.length) = some 2 := by decide +kernel
abbrev rm_X4_suits : Room := { frames := 4, cells := 0, slots := 0, locals := 106 }
set_option maxHeartbeats 4000000 in
set_option maxRecDepth 100000 in
theorem j_X4_suits {p : Program} {l : Launch} {e : Env} {s : State} {m : MethodId} {args : Array Value} {below : List Frame} {meth : Method} {c : Code} {b : Nat} {D : va_G} {cy : Nat → ClassId} {G : Gm} {v0 : Nat} {v1 : Nat} {v2 : Int32} {v3 : Int32} {S : St} {Q : Int32 → St → Prop} (C : CX p s m args meth c b D cy cX4_suits RX4 5 (some .boolean)) (hE : s.heap.size + 0 ≤ b + G.2.2) (t_v0 : ok G 3 v0) (t_v1 : ok G 4 v1) (h : f_X4_suits G v0 v1 v2 v3 Q S) : J p l e rm_X4_suits s m args below meth c b D cy 5 (zI b D cy below args s G Q) 0 0 G S 0 [(0, .ref (b + v0)), (1, .ref (b + v1)), (2, .int v2), (3, .int v3)] [] := by
  unfold f_X4_suits at h
  refine jB C [(.iload_n 3, 1, 0), (.aload_n 1, 1, 0), (.iconst 3, 1, 3)] 3 [(0, .ref (b + v0)), (1, .ref (b + v1)), (2, .int v2), (3, .int v3)] [.int 3, .ref (b + v1), .int v3] (by decide +kernel) rfl rfl ?_
  refine jcVN_I C 6 (rest := [.int v3]) (ok_X5_termOf t_v1 h) (by decide +kernel : decode cX4_suits 3 = .ok (.invokevirtual 55, 3)) rfl wn_922 wd_418 wp_11 wd_2 wd_419 ⟨rfl, rfl⟩ hd_X5_termOf ⟨Nat.le_of_ble_eq_true rfl, Nat.le_of_ble_eq_true rfl⟩ t_v1 kX5 (by decide) rfl rfl rfl (Nat.le_of_ble_eq_true rfl) ⟨Nat.zero_le _, Nat.zero_le _⟩ (fun r2 S1 h => ?_)
  refine jcSN_I C 9 (rest := []) (ok_X3_through h) (by decide +kernel : decode cX4_suits 6 = .ok (.invokestatic 99, 3)) rfl wn_962 wd_421 wd_13 wd_422 ⟨rfl, rfl⟩ hd_X3_through ⟨Nat.le_of_ble_eq_true rfl, Nat.le_of_ble_eq_true rfl⟩ rfl rfl (Nat.le_of_ble_eq_true rfl) ⟨Nat.zero_le _, Nat.zero_le _⟩ (fun r4 S3 h => ?_)
  refine jB C [(.istore 4, 2, 0), (.aload_n 0, 1, 0)] 12 [(4, .int r4), (0, .ref (b + v0)), (1, .ref (b + v1)), (2, .int v2), (3, .int v3)] [.ref (b + v0)] (by decide +kernel) rfl rfl ?_
  obtain ⟨a5, e_a5, h⟩ := h
  refine jGetR C 15 (by decide +kernel : decode cX4_suits 12 = .ok (.getfield 12, 3)) rfl t_v0 kX4 0 (by decide) rfl rfl (by decide) wd_191 e_a5 rfl (fun t_a5 => ?_)
  refine jB C [(.aload_n 1, 1, 0), (.iload_n 2, 1, 0), (.iload 4, 2, 0)] 19 [(4, .int r4), (0, .ref (b + v0)), (1, .ref (b + v1)), (2, .int v2), (3, .int v3)] [.int r4, .int v2, .ref (b + v1), .ref (b + a5)] (by decide +kernel) rfl rfl ?_
  refine jcVN_I C 22 (rest := []) (ok_X2_deed t_a5 t_v1 h) (by decide +kernel : decode cX4_suits 19 = .ok (.invokevirtual 134, 3)) rfl wn_1000 wd_428 wp_12 wd_4 wd_429 ⟨rfl, rfl⟩ hd_X2_deed ⟨Nat.le_of_ble_eq_true rfl, Nat.le_of_ble_eq_true rfl⟩ t_a5 kX2 (by decide) rfl rfl rfl (Nat.le_of_ble_eq_true rfl) ⟨Nat.zero_le _, Nat.zero_le _⟩ (fun r7 S6 h => ?_)
  refine jB C [(.aload_n 1, 1, 0), (.iload_n 2, 1, 0)] 24 [(4, .int r4), (0, .ref (b + v0)), (1, .ref (b + v1)), (2, .int v2), (3, .int v3)] [.int v2, .ref (b + v1), .int r7] (by decide +kernel) rfl rfl ?_
  refine jcVN_I C 27 (rest := [.int r7]) (ok_X5_wantedOf t_v1 h) (by decide +kernel : decode cX4_suits 24 = .ok (.invokevirtual 138, 3)) rfl wn_1001 wd_487 wp_22 wd_2 wd_488 ⟨rfl, rfl⟩ hd_X5_wantedOf ⟨Nat.le_of_ble_eq_true rfl, Nat.le_of_ble_eq_true rfl⟩ t_v1 kX5 (by decide) rfl rfl rfl (Nat.le_of_ble_eq_true rfl) ⟨Nat.zero_le _, Nat.zero_le _⟩ (fun r9 S8 h => ?_)
  refine jIcmp_ne C 30 34 (by decide +kernel : decode cX4_suits 27 = .ok (.if_icmp .ne 7, 3)) rfl rfl (fun c10 => ?_) (fun c10 => ?_)
  · have h := it2 h c10
    refine jB C [(.iconst 0, 1, 0)] 35 [(4, .int r4), (0, .ref (b + v0)), (1, .ref (b + v1)), (2, .int v2), (3, .int v3)] [.int 0] (by decide +kernel) rfl rfl ?_
    exact jRetZ C (by decide +kernel : decode cX4_suits 35 = .ok (.ireturn, 1)) (Nat.le_refl _) (Nat.le_refl _) (by decide) ⟨rfl, h⟩
  · have h := it1 h c10
    refine jB C [(.iconst 1, 1, 1)] 31 [(4, .int r4), (0, .ref (b + v0)), (1, .ref (b + v1)), (2, .int v2), (3, .int v3)] [.int 1] (by decide +kernel) rfl rfl ?_
    refine jGoto C 35 (by decide +kernel : decode cX4_suits 31 = .ok (.goto 4, 3)) rfl ?_
    exact jRetZ C (by decide +kernel : decode cX4_suits 35 = .ok (.ireturn, 1)) (Nat.le_refl _) (Nat.le_refl _) (by decide) ⟨rfl, h⟩
theorem ok_X4_suits {G : Gm} {v0 : Nat} {v1 : Nat} {v2 : Int32} {v3 : Int32} {S : St} {Q : Int32 → St → Prop}  (t_v0 : ok G 3 v0) (t_v1 : ok G 4 v1) (h : f_X4_suits G v0 v1 v2 v3 Q S) : MT yX4_suits cX4_suits 5 (some .boolean) rm_X4_suits 0 0 (fun b => [.ref (b + v0), .ref (b + v1), .int v2, .int v3]) G S (QI (fun r G1 S1 => G1 = G ∧ Q r S1)) := MT.ofJ (by decide +kernel) (fun b => [(0, .ref (b + v0)), (1, .ref (b + v1)), (2, .int v2), (3, .int v3)]) (fun b => rfl) (fun b => Nat.le_of_ble_eq_true rfl) (fun l b D cy p e s m below meth c C hE hn => j_X4_suits C hE t_v0 t_v1 h)
theorem hd_X4_suits : yX4_suits.cls ≠ "java/lang/invoke/MethodHandle" ∧ yX4_suits.cls ≠ "java/lang/invoke/VarHandle" ∧ (parseMethodDescriptor yX4_suits.desc).map (fun d => d.parameters.length) = some 3 := by decide +kernel
abbrev rm_X4_mildestFor : Room := { frames := 5, cells := 0, slots := 0, locals := 130 }
set_option maxHeartbeats 4000000 in
set_option maxRecDepth 100000 in
theorem j_X4_mildestFor_53_n {p : Program} {l : Launch} {e : Env} {s : State} {m : MethodId} {args : Array Value} {below : List Frame} {meth : Method} {c : Code} {b : Nat} {D : va_G} {cy : Nat → ClassId} {G : Gm} {k44 : Int32 → St → Prop} {v0 : Nat} {v1 : Nat} {v2 : Int32} {v3 : Int32} {Q : Int32 → St → Prop} (C : CX p s m args meth c b D cy cX4_mildestFor RX4 6 (some .int)) (hE : s.heap.size + 0 ≤ b + G.2.2) (t_v0 : ok G 3 v0) (t_v1 : ok G 4 v1) (hk44 : ∀ v3' S, k44 v3' S → J p l e rm_X4_mildestFor s m args below meth c b D cy 6 (zI b D cy below args s G Q) 0 0 G S 44 [(0, .ref (b + v0)), (1, .ref (b + v1)), (2, .int v2), (3, .int (v3'))] []) : ∀ k (v4 : Int32) S, f_X4_mildestFor_53_n G k44 v0 v1 v2 v3 Q k v4 S → J p l e rm_X4_mildestFor s m args below meth c b D cy 6 (zI b D cy below args s G Q) 0 0 G S 53 [(0, .ref (b + v0)), (1, .ref (b + v1)), (2, .int v2), (3, .int v3), (4, .int v4)] [] := by
  intro k
  induction k with
  | zero => intro v4 S h; exact h.elim
  | succ k ih =>
    intro v4 S h
    unfold f_X4_mildestFor_53_n at h
    refine jB C [(.iload 4, 2, 0), (.bipush 8, 2, 8)] 57 [(0, .ref (b + v0)), (1, .ref (b + v1)), (2, .int v2), (3, .int v3), (4, .int v4)] [.int 8, .int v4] (by decide +kernel) rfl rfl ?_
    refine jIcmp_ge C 60 93 (by decide +kernel : decode cX4_mildestFor 57 = .ok (.if_icmp .ge 36, 3)) rfl rfl (fun c1 => ?_) (fun c1 => ?_)
    · have h := it1 h c1
      refine jB C [(.iinc 3 1, 3, 1)] 96 [(3, .int (v3 + 1)), (0, .ref (b + v0)), (1, .ref (b + v1)), (2, .int v2), (4, .int v4)] [] (by decide +kernel) rfl rfl ?_
      refine jGoto C 44 (by decide +kernel : decode cX4_mildestFor 96 = .ok (.goto (-52), 3)) rfl ?_
      refine jSub [1, 2, 3, 0] rfl ?_
      exact hk44 (v3 + 1) S h
    · have h := it2 h c1
      refine jB C [(.iload_n 3, 1, 0), (.iconst 1, 1, 1), (.iadd, 1, 0), (.bipush 10, 2, 10), (.imul, 1, 0), (.iload 4, 2, 0), (.iadd, 1, 0), (.iconst 1, 1, 1), (.iadd, 1, 0)] 71 [(0, .ref (b + v0)), (1, .ref (b + v1)), (2, .int v2), (3, .int v3), (4, .int v4)] [.int ((((v3 + 1) * 10) + v4) + 1)] (by decide +kernel) rfl rfl ?_
      refine jTopI (fun x2 e_x2 => ?_)
      have h := h x2 e_x2
      refine jB C [(.istore 5, 2, 0), (.aload_n 0, 1, 0), (.aload_n 1, 1, 0), (.iload_n 2, 1, 0), (.iload 5, 2, 0)] 78 [(5, .int x2), (0, .ref (b + v0)), (1, .ref (b + v1)), (2, .int v2), (3, .int v3), (4, .int v4)] [.int x2, .int v2, .ref (b + v1), .ref (b + v0)] (by decide +kernel) rfl rfl ?_
      refine jcV_I C 81 (rest := []) (ok_X4_suits t_v0 t_v1 h) (by decide +kernel : decode cX4_mildestFor 78 = .ok (.invokevirtual 173, 3)) rfl wd_1068 wd_1070 wp_95 wd_8 wd_1071 ⟨rfl, rfl⟩ hd_X4_suits ⟨Nat.le_of_ble_eq_true rfl, Nat.le_of_ble_eq_true rfl⟩ t_v0 kX4 (by decide) rfl rfl rfl (Nat.le_of_ble_eq_true rfl) ⟨Nat.zero_le _, Nat.zero_le _⟩ (fun r4 S3 h => ?_)
      refine jIf_eq C 84 87 (by decide +kernel : decode cX4_mildestFor 81 = .ok (.ifCond .eq 6, 3)) rfl rfl (fun c5 => ?_) (fun c5 => ?_)
      · have h := it1 h c5
        refine jB C [(.iinc 4 1, 3, 1)] 90 [(4, .int (v4 + 1)), (5, .int x2), (0, .ref (b + v0)), (1, .ref (b + v1)), (2, .int v2), (3, .int v3)] [] (by decide +kernel) rfl rfl ?_
        refine jGoto C 53 (by decide +kernel : decode cX4_mildestFor 90 = .ok (.goto (-37), 3)) rfl ?_
        refine jSub [2, 3, 4, 5, 0] rfl ?_
        exact ih (v4 + 1) S3 h
      · have h := it2 h c5
        refine jB C [(.iload 5, 2, 0)] 86 [(5, .int x2), (0, .ref (b + v0)), (1, .ref (b + v1)), (2, .int v2), (3, .int v3), (4, .int v4)] [.int x2] (by decide +kernel) rfl rfl ?_
        exact jRetI C (by decide +kernel : decode cX4_mildestFor 86 = .ok (.ireturn, 1)) (Nat.le_refl _) (Nat.le_refl _) ⟨rfl, h⟩
theorem j_X4_mildestFor_53 {p : Program} {l : Launch} {e : Env} {s : State} {m : MethodId} {args : Array Value} {below : List Frame} {meth : Method} {c : Code} {b : Nat} {D : va_G} {cy : Nat → ClassId} {G : Gm} {k44 : Int32 → St → Prop} {v0 : Nat} {v1 : Nat} {v2 : Int32} {v3 : Int32} {v4 : Int32} {S : St} {Q : Int32 → St → Prop} (C : CX p s m args meth c b D cy cX4_mildestFor RX4 6 (some .int)) (hE : s.heap.size + 0 ≤ b + G.2.2) (t_v0 : ok G 3 v0) (t_v1 : ok G 4 v1) (hk44 : ∀ v3' S, k44 v3' S → J p l e rm_X4_mildestFor s m args below meth c b D cy 6 (zI b D cy below args s G Q) 0 0 G S 44 [(0, .ref (b + v0)), (1, .ref (b + v1)), (2, .int v2), (3, .int (v3'))] []) (h : f_X4_mildestFor_53 G k44 v0 v1 v2 v3 Q v4 S) : J p l e rm_X4_mildestFor s m args below meth c b D cy 6 (zI b D cy below args s G Q) 0 0 G S 53 [(0, .ref (b + v0)), (1, .ref (b + v1)), (2, .int v2), (3, .int v3), (4, .int v4)] [] := by
  obtain ⟨k, h⟩ := h
  exact j_X4_mildestFor_53_n C hE t_v0 t_v1 hk44 k v4 S h
set_option maxHeartbeats 4000000 in
set_option maxRecDepth 100000 in
theorem j_X4_mildestFor_44_n {p : Program} {l : Launch} {e : Env} {s : State} {m : MethodId} {args : Array Value} {below : List Frame} {meth : Method} {c : Code} {b : Nat} {D : va_G} {cy : Nat → ClassId} {G : Gm} {v0 : Nat} {v1 : Nat} {v2 : Int32} {Q : Int32 → St → Prop} (C : CX p s m args meth c b D cy cX4_mildestFor RX4 6 (some .int)) (hE : s.heap.size + 0 ≤ b + G.2.2) (t_v0 : ok G 3 v0) (t_v1 : ok G 4 v1) : ∀ k (v3 : Int32) S, f_X4_mildestFor_44_n G v0 v1 v2 Q k v3 S → J p l e rm_X4_mildestFor s m args below meth c b D cy 6 (zI b D cy below args s G Q) 0 0 G S 44 [(0, .ref (b + v0)), (1, .ref (b + v1)), (2, .int v2), (3, .int v3)] [] := by
  intro k
  induction k with
  | zero => intro v3 S h; exact h.elim
  | succ k ih =>
    intro v3 S h
    unfold f_X4_mildestFor_44_n at h
    refine jB C [(.iload_n 3, 1, 0), (.bipush 8, 2, 8)] 47 [(0, .ref (b + v0)), (1, .ref (b + v1)), (2, .int v2), (3, .int v3)] [.int 8, .int v3] (by decide +kernel) rfl rfl ?_
    refine jIcmp_ge C 50 99 (by decide +kernel : decode cX4_mildestFor 47 = .ok (.if_icmp .ge 52, 3)) rfl rfl (fun c1 => ?_) (fun c1 => ?_)
    · have h := it1 h c1
      refine jB C [(.iconst (-1), 1, (-1))] 100 [(0, .ref (b + v0)), (1, .ref (b + v1)), (2, .int v2), (3, .int v3)] [.int (-1)] (by decide +kernel) rfl rfl ?_
      exact jRetI C (by decide +kernel : decode cX4_mildestFor 100 = .ok (.ireturn, 1)) (Nat.le_refl _) (Nat.le_refl _) ⟨rfl, h⟩
    · have h := it2 h c1
      refine jB C [(.iconst 1, 1, 1), (.istore 4, 2, 0)] 53 [(4, .int 1), (0, .ref (b + v0)), (1, .ref (b + v1)), (2, .int v2), (3, .int v3)] [] (by decide +kernel) rfl rfl ?_
      refine jSub [1, 2, 3, 4, 0] rfl ?_
      exact j_X4_mildestFor_53 C hE t_v0 t_v1 ih h
theorem j_X4_mildestFor_44 {p : Program} {l : Launch} {e : Env} {s : State} {m : MethodId} {args : Array Value} {below : List Frame} {meth : Method} {c : Code} {b : Nat} {D : va_G} {cy : Nat → ClassId} {G : Gm} {v0 : Nat} {v1 : Nat} {v2 : Int32} {v3 : Int32} {S : St} {Q : Int32 → St → Prop} (C : CX p s m args meth c b D cy cX4_mildestFor RX4 6 (some .int)) (hE : s.heap.size + 0 ≤ b + G.2.2) (t_v0 : ok G 3 v0) (t_v1 : ok G 4 v1) (h : f_X4_mildestFor_44 G v0 v1 v2 Q v3 S) : J p l e rm_X4_mildestFor s m args below meth c b D cy 6 (zI b D cy below args s G Q) 0 0 G S 44 [(0, .ref (b + v0)), (1, .ref (b + v1)), (2, .int v2), (3, .int v3)] [] := by
  obtain ⟨k, h⟩ := h
  exact j_X4_mildestFor_44_n C hE t_v0 t_v1 k v3 S h
set_option maxHeartbeats 4000000 in
set_option maxRecDepth 100000 in
theorem j_X4_mildestFor_14_n {p : Program} {l : Launch} {e : Env} {s : State} {m : MethodId} {args : Array Value} {below : List Frame} {meth : Method} {c : Code} {b : Nat} {D : va_G} {cy : Nat → ClassId} {G : Gm} {v0 : Nat} {v1 : Nat} {v2 : Int32} {Q : Int32 → St → Prop} (C : CX p s m args meth c b D cy cX4_mildestFor RX4 6 (some .int)) (hE : s.heap.size + 0 ≤ b + G.2.2) (t_v0 : ok G 3 v0) (t_v1 : ok G 4 v1) : ∀ k (v3 : Int32) S, f_X4_mildestFor_14_n G v0 v1 v2 Q k v3 S → J p l e rm_X4_mildestFor s m args below meth c b D cy 6 (zI b D cy below args s G Q) 0 0 G S 14 [(0, .ref (b + v0)), (1, .ref (b + v1)), (2, .int v2), (3, .int v3)] [] := by
  intro k
  induction k with
  | zero => intro v3 S h; exact h.elim
  | succ k ih =>
    intro v3 S h
    unfold f_X4_mildestFor_14_n at h
    refine jB C [(.iload_n 3, 1, 0), (.bipush 8, 2, 8)] 17 [(0, .ref (b + v0)), (1, .ref (b + v1)), (2, .int v2), (3, .int v3)] [.int 8, .int v3] (by decide +kernel) rfl rfl ?_
    refine jIcmp_ge C 20 42 (by decide +kernel : decode cX4_mildestFor 17 = .ok (.if_icmp .ge 25, 3)) rfl rfl (fun c1 => ?_) (fun c1 => ?_)
    · have h := it1 h c1
      refine jB C [(.iconst 1, 1, 1), (.istore_n 3, 1, 0)] 44 [(3, .int 1), (0, .ref (b + v0)), (1, .ref (b + v1)), (2, .int v2)] [] (by decide +kernel) rfl rfl ?_
      refine jSub [1, 2, 3, 0] rfl ?_
      exact j_X4_mildestFor_44 C hE t_v0 t_v1 h
    · have h := it2 h c1
      refine jB C [(.aload_n 0, 1, 0), (.aload_n 1, 1, 0), (.iload_n 2, 1, 0), (.iload_n 3, 1, 0), (.iconst 1, 1, 1), (.iadd, 1, 0)] 26 [(0, .ref (b + v0)), (1, .ref (b + v1)), (2, .int v2), (3, .int v3)] [.int (v3 + 1), .int v2, .ref (b + v1), .ref (b + v0)] (by decide +kernel) rfl rfl ?_
      refine jcV_I C 29 (rest := []) (ok_X4_suits t_v0 t_v1 h) (by decide +kernel : decode cX4_mildestFor 26 = .ok (.invokevirtual 173, 3)) rfl wd_1068 wd_1070 wp_95 wd_8 wd_1071 ⟨rfl, rfl⟩ hd_X4_suits ⟨Nat.le_of_ble_eq_true rfl, Nat.le_of_ble_eq_true rfl⟩ t_v0 kX4 (by decide) rfl rfl rfl (Nat.le_of_ble_eq_true rfl) ⟨Nat.zero_le _, Nat.zero_le _⟩ (fun r3 S2 h => ?_)
      refine jIf_eq C 32 36 (by decide +kernel : decode cX4_mildestFor 29 = .ok (.ifCond .eq 7, 3)) rfl rfl (fun c4 => ?_) (fun c4 => ?_)
      · have h := it1 h c4
        refine jB C [(.iinc 3 1, 3, 1)] 39 [(3, .int (v3 + 1)), (0, .ref (b + v0)), (1, .ref (b + v1)), (2, .int v2)] [] (by decide +kernel) rfl rfl ?_
        refine jGoto C 14 (by decide +kernel : decode cX4_mildestFor 39 = .ok (.goto (-25), 3)) rfl ?_
        refine jSub [1, 2, 3, 0] rfl ?_
        exact ih (v3 + 1) S2 h
      · have h := it2 h c4
        refine jB C [(.iload_n 3, 1, 0), (.iconst 1, 1, 1), (.iadd, 1, 0)] 35 [(0, .ref (b + v0)), (1, .ref (b + v1)), (2, .int v2), (3, .int v3)] [.int (v3 + 1)] (by decide +kernel) rfl rfl ?_
        exact jRetI C (by decide +kernel : decode cX4_mildestFor 35 = .ok (.ireturn, 1)) (Nat.le_refl _) (Nat.le_refl _) ⟨rfl, h⟩
theorem j_X4_mildestFor_14 {p : Program} {l : Launch} {e : Env} {s : State} {m : MethodId} {args : Array Value} {below : List Frame} {meth : Method} {c : Code} {b : Nat} {D : va_G} {cy : Nat → ClassId} {G : Gm} {v0 : Nat} {v1 : Nat} {v2 : Int32} {v3 : Int32} {S : St} {Q : Int32 → St → Prop} (C : CX p s m args meth c b D cy cX4_mildestFor RX4 6 (some .int)) (hE : s.heap.size + 0 ≤ b + G.2.2) (t_v0 : ok G 3 v0) (t_v1 : ok G 4 v1) (h : f_X4_mildestFor_14 G v0 v1 v2 Q v3 S) : J p l e rm_X4_mildestFor s m args below meth c b D cy 6 (zI b D cy below args s G Q) 0 0 G S 14 [(0, .ref (b + v0)), (1, .ref (b + v1)), (2, .int v2), (3, .int v3)] [] := by
  obtain ⟨k, h⟩ := h
  exact j_X4_mildestFor_14_n C hE t_v0 t_v1 k v3 S h
set_option maxHeartbeats 4000000 in
set_option maxRecDepth 100000 in
theorem j_X4_mildestFor {p : Program} {l : Launch} {e : Env} {s : State} {m : MethodId} {args : Array Value} {below : List Frame} {meth : Method} {c : Code} {b : Nat} {D : va_G} {cy : Nat → ClassId} {G : Gm} {v0 : Nat} {v1 : Nat} {v2 : Int32} {S : St} {Q : Int32 → St → Prop} (C : CX p s m args meth c b D cy cX4_mildestFor RX4 6 (some .int)) (hE : s.heap.size + 0 ≤ b + G.2.2) (t_v0 : ok G 3 v0) (t_v1 : ok G 4 v1) (h : f_X4_mildestFor G v0 v1 v2 Q S) : J p l e rm_X4_mildestFor s m args below meth c b D cy 6 (zI b D cy below args s G Q) 0 0 G S 0 [(0, .ref (b + v0)), (1, .ref (b + v1)), (2, .int v2)] [] := by
  unfold f_X4_mildestFor at h
  refine jB C [(.aload_n 0, 1, 0), (.aload_n 1, 1, 0), (.iload_n 2, 1, 0), (.iconst 0, 1, 0)] 4 [(0, .ref (b + v0)), (1, .ref (b + v1)), (2, .int v2)] [.int 0, .int v2, .ref (b + v1), .ref (b + v0)] (by decide +kernel) rfl rfl ?_
  refine jcV_I C 7 (rest := []) (ok_X4_suits t_v0 t_v1 h) (by decide +kernel : decode cX4_mildestFor 4 = .ok (.invokevirtual 173, 3)) rfl wd_1068 wd_1070 wp_95 wd_8 wd_1071 ⟨rfl, rfl⟩ hd_X4_suits ⟨Nat.le_of_ble_eq_true rfl, Nat.le_of_ble_eq_true rfl⟩ t_v0 kX4 (by decide) rfl rfl rfl (Nat.le_of_ble_eq_true rfl) ⟨Nat.zero_le _, Nat.zero_le _⟩ (fun r2 S1 h => ?_)
  refine jIf_eq C 10 12 (by decide +kernel : decode cX4_mildestFor 7 = .ok (.ifCond .eq 5, 3)) rfl rfl (fun c3 => ?_) (fun c3 => ?_)
  · have h := it1 h c3
    refine jB C [(.iconst 1, 1, 1), (.istore_n 3, 1, 0)] 14 [(3, .int 1), (0, .ref (b + v0)), (1, .ref (b + v1)), (2, .int v2)] [] (by decide +kernel) rfl rfl ?_
    refine jSub [1, 2, 3, 0] rfl ?_
    exact j_X4_mildestFor_14 C hE t_v0 t_v1 h
  · have h := it2 h c3
    refine jB C [(.iconst 0, 1, 0)] 11 [(0, .ref (b + v0)), (1, .ref (b + v1)), (2, .int v2)] [.int 0] (by decide +kernel) rfl rfl ?_
    exact jRetI C (by decide +kernel : decode cX4_mildestFor 11 = .ok (.ireturn, 1)) (Nat.le_refl _) (Nat.le_refl _) ⟨rfl, h⟩
theorem ok_X4_mildestFor {G : Gm} {v0 : Nat} {v1 : Nat} {v2 : Int32} {S : St} {Q : Int32 → St → Prop}  (t_v0 : ok G 3 v0) (t_v1 : ok G 4 v1) (h : f_X4_mildestFor G v0 v1 v2 Q S) : MT yX4_mildestFor cX4_mildestFor 6 (some .int) rm_X4_mildestFor 0 0 (fun b => [.ref (b + v0), .ref (b + v1), .int v2]) G S (QI (fun r G1 S1 => G1 = G ∧ Q r S1)) := MT.ofJ (by decide +kernel) (fun b => [(0, .ref (b + v0)), (1, .ref (b + v1)), (2, .int v2)]) (fun b => rfl) (fun b => Nat.le_of_ble_eq_true rfl) (fun l b D cy p e s m below meth c C hE hn => j_X4_mildestFor C hE t_v0 t_v1 h)
theorem hd_X4_mildestFor : yX4_mildestFor.cls ≠ "java/lang/invoke/MethodHandle" ∧ yX4_mildestFor.cls ≠ "java/lang/invoke/VarHandle" ∧ (parseMethodDescriptor yX4_mildestFor.desc).map (fun d => d.parameters.length) = some 2 := by decide +kernel
abbrev rm_X10_mildest : Room := { frames := 6, cells := 0, slots := 0, locals := 155 }
set_option maxHeartbeats 4000000 in
set_option maxRecDepth 100000 in
theorem j_X10_mildest {p : Program} {l : Launch} {e : Env} {s : State} {m : MethodId} {args : Array Value} {below : List Frame} {meth : Method} {c : Code} {b : Nat} {D : va_G} {cy : Nat → ClassId} {G : Gm} {v0 : Nat} {v1 : Int32} {S : St} {Q : Int32 → St → Prop} (C : CX p s m args meth c b D cy cX10_mildest RX10 2 (some .int)) (hE : s.heap.size + 0 ≤ b + G.2.2) (t_v0 : ok G 9 v0) (h : f_X10_mildest G v0 v1 Q S) : J p l e rm_X10_mildest s m args below meth c b D cy 2 (zI b D cy below args s G Q) 0 0 G S 0 [(0, .ref (b + v0)), (1, .int v1)] [] := by
  unfold f_X10_mildest at h
  refine jB C [(.aload_n 0, 1, 0)] 1 [(0, .ref (b + v0)), (1, .int v1)] [.ref (b + v0)] (by decide +kernel) rfl rfl ?_
  obtain ⟨a1, e_a1, h⟩ := h
  refine jGetR C 4 (by decide +kernel : decode cX10_mildest 1 = .ok (.getfield 14, 3)) rfl t_v0 kX10 0 (by decide) rfl rfl (by decide) wd_311 e_a1 rfl (fun t_a1 => ?_)
  refine jB C [(.iload_n 1, 1, 0)] 5 [(0, .ref (b + v0)), (1, .int v1)] [.int v1, .ref (b + a1)] (by decide +kernel) rfl rfl ?_
  refine jcVN_I C 8 (rest := []) (ok_X5_has t_a1 h) (by decide +kernel : decode cX10_mildest 5 = .ok (.invokevirtual 92, 3)) rfl wn_395 wd_373 wp_4 wd_2 wd_374 ⟨rfl, rfl⟩ hd_X5_has ⟨Nat.le_of_ble_eq_true rfl, Nat.le_of_ble_eq_true rfl⟩ t_a1 kX5 (by decide) rfl rfl rfl (Nat.le_of_ble_eq_true rfl) ⟨Nat.zero_le _, Nat.zero_le _⟩ (fun r3 S2 h => ?_)
  refine jIf_eq C 11 26 (by decide +kernel : decode cX10_mildest 8 = .ok (.ifCond .eq 18, 3)) rfl rfl (fun c4 => ?_) (fun c4 => ?_)
  · have h := it1 h c4
    refine jB C [(.iconst (-1), 1, (-1))] 27 [(0, .ref (b + v0)), (1, .int v1)] [.int (-1)] (by decide +kernel) rfl rfl ?_
    exact jRetI C (by decide +kernel : decode cX10_mildest 27 = .ok (.ireturn, 1)) (Nat.le_refl _) (Nat.le_refl _) ⟨rfl, h⟩
  · have h := it2 h c4
    refine jB C [(.aload_n 0, 1, 0)] 12 [(0, .ref (b + v0)), (1, .int v1)] [.ref (b + v0)] (by decide +kernel) rfl rfl ?_
    obtain ⟨a5, e_a5, h⟩ := h
    refine jGetR C 15 (by decide +kernel : decode cX10_mildest 12 = .ok (.getfield 56, 3)) rfl t_v0 kX10 7 (by decide) rfl rfl (by decide) wd_318 e_a5 rfl (fun t_a5 => ?_)
    refine jB C [(.aload_n 0, 1, 0)] 16 [(0, .ref (b + v0)), (1, .int v1)] [.ref (b + v0), .ref (b + a5)] (by decide +kernel) rfl rfl ?_
    obtain ⟨a6, e_a6, h⟩ := h
    refine jGetR C 19 (by decide +kernel : decode cX10_mildest 16 = .ok (.getfield 14, 3)) rfl t_v0 kX10 0 (by decide) rfl rfl (by decide) wd_311 e_a6 rfl (fun t_a6 => ?_)
    refine jB C [(.iload_n 1, 1, 0)] 20 [(0, .ref (b + v0)), (1, .int v1)] [.int v1, .ref (b + a6), .ref (b + a5)] (by decide +kernel) rfl rfl ?_
    refine jcVN_I C 23 (rest := []) (ok_X4_mildestFor t_a5 t_a6 h) (by decide +kernel : decode cX10_mildest 20 = .ok (.invokevirtual 291, 3)) rfl wn_1064 wd_1066 wp_94 wd_8 wd_1067 ⟨rfl, rfl⟩ hd_X4_mildestFor ⟨Nat.le_of_ble_eq_true rfl, Nat.le_of_ble_eq_true rfl⟩ t_a5 kX4 (by decide) rfl rfl rfl (Nat.le_of_ble_eq_true rfl) ⟨Nat.zero_le _, Nat.zero_le _⟩ (fun r8 S7 h => ?_)
    refine jGoto C 27 (by decide +kernel : decode cX10_mildest 23 = .ok (.goto 4, 3)) rfl ?_
    exact jRetI C (by decide +kernel : decode cX10_mildest 27 = .ok (.ireturn, 1)) (Nat.le_refl _) (Nat.le_refl _) ⟨rfl, h⟩
theorem ok_X10_mildest {G : Gm} {v0 : Nat} {v1 : Int32} {S : St} {Q : Int32 → St → Prop}  (t_v0 : ok G 9 v0) (h : f_X10_mildest G v0 v1 Q S) : MT yX10_mildest cX10_mildest 2 (some .int) rm_X10_mildest 0 0 (fun b => [.ref (b + v0), .int v1]) G S (QI (fun r G1 S1 => G1 = G ∧ Q r S1)) := MT.ofJ (by decide +kernel) (fun b => [(0, .ref (b + v0)), (1, .int v1)]) (fun b => rfl) (fun b => Nat.le_of_ble_eq_true rfl) (fun l b D cy p e s m below meth c C hE hn => j_X10_mildest C hE t_v0 h)
theorem hd_X10_mildest : yX10_mildest.cls ≠ "java/lang/invoke/MethodHandle" ∧ yX10_mildest.cls ≠ "java/lang/invoke/VarHandle" ∧ (parseMethodDescriptor yX10_mildest.desc).map (fun d => d.parameters.length) = some 1 := by decide +kernel
abbrev rm_X4_explains : Room := { frames := 3, cells := 0, slots := 0, locals := 68 }
set_option maxHeartbeats 4000000 in
set_option maxRecDepth 100000 in
theorem j_X4_explains_46 {p : Program} {l : Launch} {e : Env} {s : State} {m : MethodId} {args : Array Value} {below : List Frame} {meth : Method} {c : Code} {b : Nat} {D : va_G} {cy : Nat → ClassId} {G : Gm} {k2 : Int32 → St → Prop} {v0 : Nat} {v1 : Int32} {v2 : Int32} {v3 : Int32} {u0 : Int32} {S : St} {Q : Int32 → St → Prop} (C : CX p s m args meth c b D cy cX4_explains RX4 6 (some .boolean)) (hE : s.heap.size + 0 ≤ b + G.2.2) (t_v0 : ok G 4 v0) (hk2 : ∀ v3' S, k2 v3' S → J p l e rm_X4_explains s m args below meth c b D cy 6 (zI b D cy below args s G Q) 0 0 G S 2 [(0, .ref (b + v0)), (1, .int v1), (2, .int v2), (3, .int (v3'))] []) (h : f_X4_explains_46 G k2 v0 v1 v2 v3 u0 Q S) : J p l e rm_X4_explains s m args below meth c b D cy 6 (zI b D cy below args s G Q) 0 0 G S 46 [(0, .ref (b + v0)), (1, .int v1), (2, .int v2), (3, .int v3)] [.int u0] := by
  unfold f_X4_explains_46 at h
  refine jB C [(.istore 5, 2, 0), (.aload_n 0, 1, 0), (.iload 5, 2, 0)] 51 [(5, .int u0), (0, .ref (b + v0)), (1, .int v1), (2, .int v2), (3, .int v3)] [.int u0, .ref (b + v0)] (by decide +kernel) rfl rfl ?_
  refine jcVN_I C 54 (rest := []) (ok_X5_sightOf t_v0 h) (by decide +kernel : decode cX4_explains 51 = .ok (.invokevirtual 61, 3)) rfl wn_923 wd_413 wp_10 wd_2 wd_414 ⟨rfl, rfl⟩ hd_X5_sightOf ⟨Nat.le_of_ble_eq_true rfl, Nat.le_of_ble_eq_true rfl⟩ t_v0 kX5 (by decide) rfl rfl rfl (Nat.le_of_ble_eq_true rfl) ⟨Nat.zero_le _, Nat.zero_le _⟩ (fun r2 S1 h => ?_)
  refine jB C [(.aload_n 0, 1, 0)] 55 [(5, .int u0), (0, .ref (b + v0)), (1, .int v1), (2, .int v2), (3, .int v3)] [.ref (b + v0), .int r2] (by decide +kernel) rfl rfl ?_
  obtain ⟨a3, e_a3, h⟩ := h
  refine jGetRN C 58 (by decide +kernel : decode cX4_explains 55 = .ok (.getfield 102, 3)) rfl t_v0 kX5 7 (by decide) rfl rfl (by decide) wn_52 e_a3 rfl (fun t_a3 => ?_)
  refine jB C [(.iload_n 3, 1, 0)] 59 [(5, .int u0), (0, .ref (b + v0)), (1, .int v1), (2, .int v2), (3, .int v3)] [.int v3, .ref (b + a3), .int r2] (by decide +kernel) rfl rfl ?_
  obtain ⟨y4, h⟩ := h
  refine jIald C 60 (by decide +kernel : decode cX4_explains 59 = .ok (.iaload, 1)) rfl t_a3 y4 ?_
  refine jIcmp_eq C 63 65 (by decide +kernel : decode cX4_explains 60 = .ok (.if_icmp .eq 5, 3)) rfl rfl (fun c5 => ?_) (fun c5 => ?_)
  · have h := it1 h c5
    refine jB C [(.iinc 3 1, 3, 1)] 68 [(3, .int (v3 + 1)), (5, .int u0), (0, .ref (b + v0)), (1, .int v1), (2, .int v2)] [] (by decide +kernel) rfl rfl ?_
    refine jGoto C 2 (by decide +kernel : decode cX4_explains 68 = .ok (.goto (-66), 3)) rfl ?_
    refine jSub [2, 3, 4, 0] rfl ?_
    exact hk2 (v3 + 1) S1 h
  · have h := it2 h c5
    refine jB C [(.iconst 0, 1, 0)] 64 [(5, .int u0), (0, .ref (b + v0)), (1, .int v1), (2, .int v2), (3, .int v3)] [.int 0] (by decide +kernel) rfl rfl ?_
    exact jRetZ C (by decide +kernel : decode cX4_explains 64 = .ok (.ireturn, 1)) (Nat.le_refl _) (Nat.le_refl _) (by decide) ⟨rfl, h⟩
set_option maxHeartbeats 4000000 in
set_option maxRecDepth 100000 in
theorem j_X4_explains_2_n {p : Program} {l : Launch} {e : Env} {s : State} {m : MethodId} {args : Array Value} {below : List Frame} {meth : Method} {c : Code} {b : Nat} {D : va_G} {cy : Nat → ClassId} {G : Gm} {v0 : Nat} {v1 : Int32} {v2 : Int32} {Q : Int32 → St → Prop} (C : CX p s m args meth c b D cy cX4_explains RX4 6 (some .boolean)) (hE : s.heap.size + 0 ≤ b + G.2.2) (t_v0 : ok G 4 v0) : ∀ k (v3 : Int32) S, f_X4_explains_2_n G v0 v1 v2 Q k v3 S → J p l e rm_X4_explains s m args below meth c b D cy 6 (zI b D cy below args s G Q) 0 0 G S 2 [(0, .ref (b + v0)), (1, .int v1), (2, .int v2), (3, .int v3)] [] := by
  intro k
  induction k with
  | zero => intro v3 S h; exact h.elim
  | succ k ih =>
    intro v3 S h
    unfold f_X4_explains_2_n at h
    refine jB C [(.iload_n 3, 1, 0), (.aload_n 0, 1, 0)] 4 [(0, .ref (b + v0)), (1, .int v1), (2, .int v2), (3, .int v3)] [.ref (b + v0), .int v3] (by decide +kernel) rfl rfl ?_
    refine jGetIN C 7 (by decide +kernel : decode cX4_explains 4 = .ok (.getfield 89, 3)) rfl t_v0 kX5 5 (by decide) rfl rfl (by decide) wn_47 ?_
    refine jIcmp_ge C 10 71 (by decide +kernel : decode cX4_explains 7 = .ok (.if_icmp .ge 64, 3)) rfl rfl (fun c1 => ?_) (fun c1 => ?_)
    · have h := it1 h c1
      refine jB C [(.iconst 1, 1, 1)] 72 [(0, .ref (b + v0)), (1, .int v1), (2, .int v2), (3, .int v3)] [.int 1] (by decide +kernel) rfl rfl ?_
      exact jRetZ C (by decide +kernel : decode cX4_explains 72 = .ok (.ireturn, 1)) (Nat.le_refl _) (Nat.le_refl _) (by decide) ⟨rfl, h⟩
    · have h := it2 h c1
      refine jB C [(.iload_n 3, 1, 0), (.bipush 8, 2, 8)] 13 [(0, .ref (b + v0)), (1, .int v1), (2, .int v2), (3, .int v3)] [.int 8, .int v3] (by decide +kernel) rfl rfl ?_
      refine jIcmp_ge C 16 71 (by decide +kernel : decode cX4_explains 13 = .ok (.if_icmp .ge 58, 3)) rfl rfl (fun c2 => ?_) (fun c2 => ?_)
      · have h := it1 h c2
        refine jB C [(.iconst 1, 1, 1)] 72 [(0, .ref (b + v0)), (1, .int v1), (2, .int v2), (3, .int v3)] [.int 1] (by decide +kernel) rfl rfl ?_
        exact jRetZ C (by decide +kernel : decode cX4_explains 72 = .ok (.ireturn, 1)) (Nat.le_refl _) (Nat.le_refl _) (by decide) ⟨rfl, h⟩
      · have h := it2 h c2
        refine jB C [(.aload_n 0, 1, 0)] 17 [(0, .ref (b + v0)), (1, .int v1), (2, .int v2), (3, .int v3)] [.ref (b + v0)] (by decide +kernel) rfl rfl ?_
        obtain ⟨a3, e_a3, h⟩ := h
        refine jGetRN C 20 (by decide +kernel : decode cX4_explains 17 = .ok (.getfield 93, 3)) rfl t_v0 kX5 6 (by decide) rfl rfl (by decide) wn_50 e_a3 rfl (fun t_a3 => ?_)
        refine jB C [(.iload_n 3, 1, 0)] 21 [(0, .ref (b + v0)), (1, .int v1), (2, .int v2), (3, .int v3)] [.int v3, .ref (b + a3)] (by decide +kernel) rfl rfl ?_
        obtain ⟨y4, h⟩ := h
        refine jIald C 22 (by decide +kernel : decode cX4_explains 21 = .ok (.iaload, 1)) rfl t_a3 y4 ?_
        refine jTopI (fun x5 e_x5 => ?_)
        have h := h x5 e_x5
        refine jB C [(.istore 4, 2, 0), (.iload 4, 2, 0), (.iload_n 1, 1, 0)] 27 [(4, .int x5), (0, .ref (b + v0)), (1, .int v1), (2, .int v2), (3, .int v3)] [.int v1, .int x5] (by decide +kernel) rfl rfl ?_
        refine jIcmp_ne C 30 34 (by decide +kernel : decode cX4_explains 27 = .ok (.if_icmp .ne 7, 3)) rfl rfl (fun c6 => ?_) (fun c6 => ?_)
        · have h := it2 h c6
          refine jB C [(.iload 4, 2, 0), (.iload_n 2, 1, 0)] 37 [(4, .int x5), (0, .ref (b + v0)), (1, .int v1), (2, .int v2), (3, .int v3)] [.int v2, .int x5] (by decide +kernel) rfl rfl ?_
          refine jIcmp_ne C 40 44 (by decide +kernel : decode cX4_explains 37 = .ok (.if_icmp .ne 7, 3)) rfl rfl (fun c7 => ?_) (fun c7 => ?_)
          · have h := it2 h c7
            refine jB C [(.iload 4, 2, 0)] 46 [(4, .int x5), (0, .ref (b + v0)), (1, .int v1), (2, .int v2), (3, .int v3)] [.int x5] (by decide +kernel) rfl rfl ?_
            refine jSub [1, 2, 3, 4] rfl ?_
            exact j_X4_explains_46 C hE t_v0 ih h
          · have h := it1 h c7
            refine jB C [(.iload_n 1, 1, 0)] 41 [(4, .int x5), (0, .ref (b + v0)), (1, .int v1), (2, .int v2), (3, .int v3)] [.int v1] (by decide +kernel) rfl rfl ?_
            refine jGoto C 46 (by decide +kernel : decode cX4_explains 41 = .ok (.goto 5, 3)) rfl ?_
            refine jSub [1, 2, 3, 4] rfl ?_
            exact j_X4_explains_46 C hE t_v0 ih h
        · have h := it1 h c6
          refine jB C [(.iload_n 2, 1, 0)] 31 [(4, .int x5), (0, .ref (b + v0)), (1, .int v1), (2, .int v2), (3, .int v3)] [.int v2] (by decide +kernel) rfl rfl ?_
          refine jGoto C 46 (by decide +kernel : decode cX4_explains 31 = .ok (.goto 15, 3)) rfl ?_
          refine jSub [1, 2, 3, 4] rfl ?_
          exact j_X4_explains_46 C hE t_v0 ih h
theorem j_X4_explains_2 {p : Program} {l : Launch} {e : Env} {s : State} {m : MethodId} {args : Array Value} {below : List Frame} {meth : Method} {c : Code} {b : Nat} {D : va_G} {cy : Nat → ClassId} {G : Gm} {v0 : Nat} {v1 : Int32} {v2 : Int32} {v3 : Int32} {S : St} {Q : Int32 → St → Prop} (C : CX p s m args meth c b D cy cX4_explains RX4 6 (some .boolean)) (hE : s.heap.size + 0 ≤ b + G.2.2) (t_v0 : ok G 4 v0) (h : f_X4_explains_2 G v0 v1 v2 Q v3 S) : J p l e rm_X4_explains s m args below meth c b D cy 6 (zI b D cy below args s G Q) 0 0 G S 2 [(0, .ref (b + v0)), (1, .int v1), (2, .int v2), (3, .int v3)] [] := by
  obtain ⟨k, h⟩ := h
  exact j_X4_explains_2_n C hE t_v0 k v3 S h
set_option maxHeartbeats 4000000 in
set_option maxRecDepth 100000 in
theorem j_X4_explains {p : Program} {l : Launch} {e : Env} {s : State} {m : MethodId} {args : Array Value} {below : List Frame} {meth : Method} {c : Code} {b : Nat} {D : va_G} {cy : Nat → ClassId} {G : Gm} {v0 : Nat} {v1 : Int32} {v2 : Int32} {S : St} {Q : Int32 → St → Prop} (C : CX p s m args meth c b D cy cX4_explains RX4 6 (some .boolean)) (hE : s.heap.size + 0 ≤ b + G.2.2) (t_v0 : ok G 4 v0) (h : f_X4_explains G v0 v1 v2 Q S) : J p l e rm_X4_explains s m args below meth c b D cy 6 (zI b D cy below args s G Q) 0 0 G S 0 [(0, .ref (b + v0)), (1, .int v1), (2, .int v2)] [] := by
  unfold f_X4_explains at h
  refine jB C [(.iconst 0, 1, 0), (.istore_n 3, 1, 0)] 2 [(3, .int 0), (0, .ref (b + v0)), (1, .int v1), (2, .int v2)] [] (by decide +kernel) rfl rfl ?_
  refine jSub [1, 2, 3, 0] rfl ?_
  exact j_X4_explains_2 C hE t_v0 h
theorem ok_X4_explains {G : Gm} {v0 : Nat} {v1 : Int32} {v2 : Int32} {S : St} {Q : Int32 → St → Prop}  (t_v0 : ok G 4 v0) (h : f_X4_explains G v0 v1 v2 Q S) : MT yX4_explains cX4_explains 6 (some .boolean) rm_X4_explains 0 0 (fun b => [.ref (b + v0), .int v1, .int v2]) G S (QI (fun r G1 S1 => G1 = G ∧ Q r S1)) := MT.ofJ (by decide +kernel) (fun b => [(0, .ref (b + v0)), (1, .int v1), (2, .int v2)]) (fun b => rfl) (fun b => Nat.le_of_ble_eq_true rfl) (fun l b D cy p e s m below meth c C hE hn => j_X4_explains C hE t_v0 h)
theorem hd_X4_explains : yX4_explains.cls ≠ "java/lang/invoke/MethodHandle" ∧ yX4_explains.cls ≠ "java/lang/invoke/VarHandle" ∧ (parseMethodDescriptor yX4_explains.desc).map (fun d => d.parameters.length) = some 3 := by decide +kernel
abbrev rm_X4_mixedAt : Room := { frames := 4, cells := 0, slots := 0, locals := 93 }
set_option maxHeartbeats 4000000 in
set_option maxRecDepth 100000 in
theorem j_X4_mixedAt_20_n {p : Program} {l : Launch} {e : Env} {s : State} {m : MethodId} {args : Array Value} {below : List Frame} {meth : Method} {c : Code} {b : Nat} {D : va_G} {cy : Nat → ClassId} {G : Gm} {k5 : Int32 → Int32 → St → Prop} {v1 : Nat} {v2 : Int32} {v4 : Int32} {Q : Int32 → St → Prop} (C : CX p s m args meth c b D cy cX4_mixedAt RX4 6 (some .int)) (hE : s.heap.size + 0 ≤ b + G.2.2) (t_v1 : ok G 4 v1) (hk5 : ∀ v3' v4' S, k5 v3' v4' S → J p l e rm_X4_mixedAt s m args below meth c b D cy 6 (zI b D cy below args s G Q) 0 0 G S 5 [(1, .ref (b + v1)), (2, .int v2), (3, .int (v3')), (4, .int (v4'))] []) : ∀ k (v3 : Int32) (v5 : Int32) S, f_X4_mixedAt_20_n G k5 v1 v2 v4 Q k v3 v5 S → J p l e rm_X4_mixedAt s m args below meth c b D cy 6 (zI b D cy below args s G Q) 0 0 G S 20 [(1, .ref (b + v1)), (2, .int v2), (3, .int v3), (4, .int v4), (5, .int v5)] [] := by
  intro k
  induction k with
  | zero => intro v3 v5 S h; exact h.elim
  | succ k ih =>
    intro v3 v5 S h
    unfold f_X4_mixedAt_20_n at h
    refine jB C [(.iload 5, 2, 0), (.aload_n 1, 1, 0)] 23 [(1, .ref (b + v1)), (2, .int v2), (3, .int v3), (4, .int v4), (5, .int v5)] [.ref (b + v1), .int v5] (by decide +kernel) rfl rfl ?_
    refine jGetIN C 26 (by decide +kernel : decode cX4_mixedAt 23 = .ok (.getfield 105, 3)) rfl t_v1 kX5 0 (by decide) rfl rfl (by decide) wn_39 ?_
    refine jIcmp_ge C 29 63 (by decide +kernel : decode cX4_mixedAt 26 = .ok (.if_icmp .ge 37, 3)) rfl rfl (fun c1 => ?_) (fun c1 => ?_)
    · have h := it1 h c1
      refine jB C [(.iinc 4 1, 3, 1)] 66 [(4, .int (v4 + 1)), (1, .ref (b + v1)), (2, .int v2), (3, .int v3), (5, .int v5)] [] (by decide +kernel) rfl rfl ?_
      refine jGoto C 5 (by decide +kernel : decode cX4_mixedAt 66 = .ok (.goto (-61), 3)) rfl ?_
      refine jSub [1, 2, 3, 0] rfl ?_
      exact hk5 v3 (v4 + 1) S h
    · have h := it2 h c1
      refine jB C [(.aload_n 1, 1, 0), (.iload 4, 2, 0), (.iload 5, 2, 0)] 34 [(1, .ref (b + v1)), (2, .int v2), (3, .int v3), (4, .int v4), (5, .int v5)] [.int v5, .int v4, .ref (b + v1)] (by decide +kernel) rfl rfl ?_
      refine jcS_I C 37 (rest := []) (ok_X4_explains t_v1 h) (by decide +kernel : decode cX4_mixedAt 34 = .ok (.invokestatic 116, 3)) rfl wd_984 wd_985 wd_8 wd_986 ⟨rfl, rfl⟩ hd_X4_explains ⟨Nat.le_of_ble_eq_true rfl, Nat.le_of_ble_eq_true rfl⟩ rfl rfl (Nat.le_of_ble_eq_true rfl) ⟨Nat.zero_le _, Nat.zero_le _⟩ (fun r3 S2 h => ?_)
      refine jIf_eq C 40 57 (by decide +kernel : decode cX4_mixedAt 37 = .ok (.ifCond .eq 20, 3)) rfl rfl (fun c4 => ?_) (fun c4 => ?_)
      · have h := it1 h c4
        refine jB C [(.iinc 5 1, 3, 1)] 60 [(5, .int (v5 + 1)), (1, .ref (b + v1)), (2, .int v2), (3, .int v3), (4, .int v4)] [] (by decide +kernel) rfl rfl ?_
        refine jGoto C 20 (by decide +kernel : decode cX4_mixedAt 60 = .ok (.goto (-40), 3)) rfl ?_
        refine jSub [1, 2, 3, 4, 0] rfl ?_
        exact ih v3 (v5 + 1) S2 h
      · have h := it2 h c4
        refine jB C [(.iload_n 3, 1, 0), (.iload_n 2, 1, 0)] 42 [(1, .ref (b + v1)), (2, .int v2), (3, .int v3), (4, .int v4), (5, .int v5)] [.int v2, .int v3] (by decide +kernel) rfl rfl ?_
        refine jIcmp_ne C 45 54 (by decide +kernel : decode cX4_mixedAt 42 = .ok (.if_icmp .ne 12, 3)) rfl rfl (fun c5 => ?_) (fun c5 => ?_)
        · have h := it2 h c5
          refine jB C [(.iinc 3 1, 3, 1), (.iinc 5 1, 3, 1)] 60 [(5, .int (v5 + 1)), (3, .int (v3 + 1)), (1, .ref (b + v1)), (2, .int v2), (4, .int v4)] [] (by decide +kernel) rfl rfl ?_
          refine jGoto C 20 (by decide +kernel : decode cX4_mixedAt 60 = .ok (.goto (-40), 3)) rfl ?_
          refine jSub [2, 3, 1, 4, 0] rfl ?_
          exact ih (v3 + 1) (v5 + 1) S2 h
        · have h := it1 h c5
          refine jB C [(.iload 4, 2, 0), (.bipush 10, 2, 10), (.imul, 1, 0), (.iload 5, 2, 0), (.iadd, 1, 0)] 53 [(1, .ref (b + v1)), (2, .int v2), (3, .int v3), (4, .int v4), (5, .int v5)] [.int ((v4 * 10) + v5)] (by decide +kernel) rfl rfl ?_
          exact jRetI C (by decide +kernel : decode cX4_mixedAt 53 = .ok (.ireturn, 1)) (Nat.le_refl _) (Nat.le_refl _) ⟨rfl, h⟩
theorem j_X4_mixedAt_20 {p : Program} {l : Launch} {e : Env} {s : State} {m : MethodId} {args : Array Value} {below : List Frame} {meth : Method} {c : Code} {b : Nat} {D : va_G} {cy : Nat → ClassId} {G : Gm} {k5 : Int32 → Int32 → St → Prop} {v1 : Nat} {v2 : Int32} {v4 : Int32} {v3 : Int32} {v5 : Int32} {S : St} {Q : Int32 → St → Prop} (C : CX p s m args meth c b D cy cX4_mixedAt RX4 6 (some .int)) (hE : s.heap.size + 0 ≤ b + G.2.2) (t_v1 : ok G 4 v1) (hk5 : ∀ v3' v4' S, k5 v3' v4' S → J p l e rm_X4_mixedAt s m args below meth c b D cy 6 (zI b D cy below args s G Q) 0 0 G S 5 [(1, .ref (b + v1)), (2, .int v2), (3, .int (v3')), (4, .int (v4'))] []) (h : f_X4_mixedAt_20 G k5 v1 v2 v4 Q v3 v5 S) : J p l e rm_X4_mixedAt s m args below meth c b D cy 6 (zI b D cy below args s G Q) 0 0 G S 20 [(1, .ref (b + v1)), (2, .int v2), (3, .int v3), (4, .int v4), (5, .int v5)] [] := by
  obtain ⟨k, h⟩ := h
  exact j_X4_mixedAt_20_n C hE t_v1 hk5 k v3 v5 S h
set_option maxHeartbeats 4000000 in
set_option maxRecDepth 100000 in
theorem j_X4_mixedAt_5_n {p : Program} {l : Launch} {e : Env} {s : State} {m : MethodId} {args : Array Value} {below : List Frame} {meth : Method} {c : Code} {b : Nat} {D : va_G} {cy : Nat → ClassId} {G : Gm} {v1 : Nat} {v2 : Int32} {Q : Int32 → St → Prop} (C : CX p s m args meth c b D cy cX4_mixedAt RX4 6 (some .int)) (hE : s.heap.size + 0 ≤ b + G.2.2) (t_v1 : ok G 4 v1) : ∀ k (v3 : Int32) (v4 : Int32) S, f_X4_mixedAt_5_n G v1 v2 Q k v3 v4 S → J p l e rm_X4_mixedAt s m args below meth c b D cy 6 (zI b D cy below args s G Q) 0 0 G S 5 [(1, .ref (b + v1)), (2, .int v2), (3, .int v3), (4, .int v4)] [] := by
  intro k
  induction k with
  | zero => intro v3 v4 S h; exact h.elim
  | succ k ih =>
    intro v3 v4 S h
    unfold f_X4_mixedAt_5_n at h
    refine jB C [(.iload 4, 2, 0), (.aload_n 1, 1, 0)] 8 [(1, .ref (b + v1)), (2, .int v2), (3, .int v3), (4, .int v4)] [.ref (b + v1), .int v4] (by decide +kernel) rfl rfl ?_
    refine jGetIN C 11 (by decide +kernel : decode cX4_mixedAt 8 = .ok (.getfield 105, 3)) rfl t_v1 kX5 0 (by decide) rfl rfl (by decide) wn_39 ?_
    refine jIcmp_ge C 14 69 (by decide +kernel : decode cX4_mixedAt 11 = .ok (.if_icmp .ge 58, 3)) rfl rfl (fun c1 => ?_) (fun c1 => ?_)
    · have h := it1 h c1
      refine jB C [(.iload_n 2, 1, 0), (.iconst (-1), 1, (-1))] 71 [(1, .ref (b + v1)), (2, .int v2), (3, .int v3), (4, .int v4)] [.int (-1), .int v2] (by decide +kernel) rfl rfl ?_
      refine jIcmp_ne C 74 78 (by decide +kernel : decode cX4_mixedAt 71 = .ok (.if_icmp .ne 7, 3)) rfl rfl (fun c2 => ?_) (fun c2 => ?_)
      · have h := it2 h c2
        refine jB C [(.iconst (-1), 1, (-1))] 79 [(1, .ref (b + v1)), (2, .int v2), (3, .int v3), (4, .int v4)] [.int (-1)] (by decide +kernel) rfl rfl ?_
        exact jRetI C (by decide +kernel : decode cX4_mixedAt 79 = .ok (.ireturn, 1)) (Nat.le_refl _) (Nat.le_refl _) ⟨rfl, h⟩
      · have h := it1 h c2
        refine jB C [(.iload_n 3, 1, 0)] 75 [(1, .ref (b + v1)), (2, .int v2), (3, .int v3), (4, .int v4)] [.int v3] (by decide +kernel) rfl rfl ?_
        refine jGoto C 79 (by decide +kernel : decode cX4_mixedAt 75 = .ok (.goto 4, 3)) rfl ?_
        exact jRetI C (by decide +kernel : decode cX4_mixedAt 79 = .ok (.ireturn, 1)) (Nat.le_refl _) (Nat.le_refl _) ⟨rfl, h⟩
    · have h := it2 h c1
      refine jB C [(.iload 4, 2, 0), (.iconst 1, 1, 1), (.iadd, 1, 0)] 18 [(1, .ref (b + v1)), (2, .int v2), (3, .int v3), (4, .int v4)] [.int (v4 + 1)] (by decide +kernel) rfl rfl ?_
      refine jTopI (fun x3 e_x3 => ?_)
      have h := h x3 e_x3
      refine jB C [(.istore 5, 2, 0)] 20 [(5, .int x3), (1, .ref (b + v1)), (2, .int v2), (3, .int v3), (4, .int v4)] [] (by decide +kernel) rfl rfl ?_
      refine jSub [1, 2, 3, 4, 0] rfl ?_
      exact j_X4_mixedAt_20 C hE t_v1 ih h
theorem j_X4_mixedAt_5 {p : Program} {l : Launch} {e : Env} {s : State} {m : MethodId} {args : Array Value} {below : List Frame} {meth : Method} {c : Code} {b : Nat} {D : va_G} {cy : Nat → ClassId} {G : Gm} {v1 : Nat} {v2 : Int32} {v3 : Int32} {v4 : Int32} {S : St} {Q : Int32 → St → Prop} (C : CX p s m args meth c b D cy cX4_mixedAt RX4 6 (some .int)) (hE : s.heap.size + 0 ≤ b + G.2.2) (t_v1 : ok G 4 v1) (h : f_X4_mixedAt_5 G v1 v2 Q v3 v4 S) : J p l e rm_X4_mixedAt s m args below meth c b D cy 6 (zI b D cy below args s G Q) 0 0 G S 5 [(1, .ref (b + v1)), (2, .int v2), (3, .int v3), (4, .int v4)] [] := by
  obtain ⟨k, h⟩ := h
  exact j_X4_mixedAt_5_n C hE t_v1 k v3 v4 S h
set_option maxHeartbeats 4000000 in
set_option maxRecDepth 100000 in
theorem j_X4_mixedAt {p : Program} {l : Launch} {e : Env} {s : State} {m : MethodId} {args : Array Value} {below : List Frame} {meth : Method} {c : Code} {b : Nat} {D : va_G} {cy : Nat → ClassId} {G : Gm} {v0 : Nat} {v1 : Nat} {v2 : Int32} {S : St} {Q : Int32 → St → Prop} (C : CX p s m args meth c b D cy cX4_mixedAt RX4 6 (some .int)) (hE : s.heap.size + 0 ≤ b + G.2.2) (t_v0 : ok G 3 v0) (t_v1 : ok G 4 v1) (h : f_X4_mixedAt G v0 v1 v2 Q S) : J p l e rm_X4_mixedAt s m args below meth c b D cy 6 (zI b D cy below args s G Q) 0 0 G S 0 [(0, .ref (b + v0)), (1, .ref (b + v1)), (2, .int v2)] [] := by
  unfold f_X4_mixedAt at h
  refine jB C [(.iconst 0, 1, 0), (.istore_n 3, 1, 0), (.iconst 0, 1, 0), (.istore 4, 2, 0)] 5 [(4, .int 0), (3, .int 0), (0, .ref (b + v0)), (1, .ref (b + v1)), (2, .int v2)] [] (by decide +kernel) rfl rfl ?_
  refine jSub [3, 4, 1, 0] rfl ?_
  exact j_X4_mixedAt_5 C hE t_v1 h
theorem ok_X4_mixedAt {G : Gm} {v0 : Nat} {v1 : Nat} {v2 : Int32} {S : St} {Q : Int32 → St → Prop}  (t_v0 : ok G 3 v0) (t_v1 : ok G 4 v1) (h : f_X4_mixedAt G v0 v1 v2 Q S) : MT yX4_mixedAt cX4_mixedAt 6 (some .int) rm_X4_mixedAt 0 0 (fun b => [.ref (b + v0), .ref (b + v1), .int v2]) G S (QI (fun r G1 S1 => G1 = G ∧ Q r S1)) := MT.ofJ (by decide +kernel) (fun b => [(0, .ref (b + v0)), (1, .ref (b + v1)), (2, .int v2)]) (fun b => rfl) (fun b => Nat.le_of_ble_eq_true rfl) (fun l b D cy p e s m below meth c C hE hn => j_X4_mixedAt C hE t_v0 t_v1 h)
theorem hd_X4_mixedAt : yX4_mixedAt.cls ≠ "java/lang/invoke/MethodHandle" ∧ yX4_mixedAt.cls ≠ "java/lang/invoke/VarHandle" ∧ (parseMethodDescriptor yX4_mixedAt.desc).map (fun d => d.parameters.length) = some 2 := by decide +kernel
abbrev rm_X10_mixed : Room := { frames := 5, cells := 0, slots := 0, locals := 118 }
set_option maxHeartbeats 4000000 in
set_option maxRecDepth 100000 in
theorem j_X10_mixed {p : Program} {l : Launch} {e : Env} {s : State} {m : MethodId} {args : Array Value} {below : List Frame} {meth : Method} {c : Code} {b : Nat} {D : va_G} {cy : Nat → ClassId} {G : Gm} {v0 : Nat} {v1 : Int32} {S : St} {Q : Int32 → St → Prop} (C : CX p s m args meth c b D cy cX10_mixed RX10 2 (some .int)) (hE : s.heap.size + 0 ≤ b + G.2.2) (t_v0 : ok G 9 v0) (h : f_X10_mixed G v0 v1 Q S) : J p l e rm_X10_mixed s m args below meth c b D cy 2 (zI b D cy below args s G Q) 0 0 G S 0 [(0, .ref (b + v0)), (1, .int v1)] [] := by
  unfold f_X10_mixed at h
  refine jB C [(.iload_n 1, 1, 0), (.iconst (-1), 1, (-1))] 2 [(0, .ref (b + v0)), (1, .int v1)] [.int (-1), .int v1] (by decide +kernel) rfl rfl ?_
  refine jIcmp_lt C 5 20 (by decide +kernel : decode cX10_mixed 2 = .ok (.if_icmp .lt 18, 3)) rfl rfl (fun c1 => ?_) (fun c1 => ?_)
  · have h := it1 h c1
    refine jB C [(.iconst (-1), 1, (-1))] 21 [(0, .ref (b + v0)), (1, .int v1)] [.int (-1)] (by decide +kernel) rfl rfl ?_
    exact jRetI C (by decide +kernel : decode cX10_mixed 21 = .ok (.ireturn, 1)) (Nat.le_refl _) (Nat.le_refl _) ⟨rfl, h⟩
  · have h := it2 h c1
    refine jB C [(.aload_n 0, 1, 0)] 6 [(0, .ref (b + v0)), (1, .int v1)] [.ref (b + v0)] (by decide +kernel) rfl rfl ?_
    obtain ⟨a2, e_a2, h⟩ := h
    refine jGetR C 9 (by decide +kernel : decode cX10_mixed 6 = .ok (.getfield 56, 3)) rfl t_v0 kX10 7 (by decide) rfl rfl (by decide) wd_318 e_a2 rfl (fun t_a2 => ?_)
    refine jB C [(.aload_n 0, 1, 0)] 10 [(0, .ref (b + v0)), (1, .int v1)] [.ref (b + v0), .ref (b + a2)] (by decide +kernel) rfl rfl ?_
    obtain ⟨a3, e_a3, h⟩ := h
    refine jGetR C 13 (by decide +kernel : decode cX10_mixed 10 = .ok (.getfield 14, 3)) rfl t_v0 kX10 0 (by decide) rfl rfl (by decide) wd_311 e_a3 rfl (fun t_a3 => ?_)
    refine jB C [(.iload_n 1, 1, 0)] 14 [(0, .ref (b + v0)), (1, .int v1)] [.int v1, .ref (b + a3), .ref (b + a2)] (by decide +kernel) rfl rfl ?_
    refine jcVN_I C 17 (rest := []) (ok_X4_mixedAt t_a2 t_a3 h) (by decide +kernel : decode cX10_mixed 14 = .ok (.invokevirtual 270, 3)) rfl wn_980 wd_982 wp_85 wd_8 wd_983 ⟨rfl, rfl⟩ hd_X4_mixedAt ⟨Nat.le_of_ble_eq_true rfl, Nat.le_of_ble_eq_true rfl⟩ t_a2 kX4 (by decide) rfl rfl rfl (Nat.le_of_ble_eq_true rfl) ⟨Nat.zero_le _, Nat.zero_le _⟩ (fun r5 S4 h => ?_)
    refine jGoto C 21 (by decide +kernel : decode cX10_mixed 17 = .ok (.goto 4, 3)) rfl ?_
    exact jRetI C (by decide +kernel : decode cX10_mixed 21 = .ok (.ireturn, 1)) (Nat.le_refl _) (Nat.le_refl _) ⟨rfl, h⟩
theorem ok_X10_mixed {G : Gm} {v0 : Nat} {v1 : Int32} {S : St} {Q : Int32 → St → Prop}  (t_v0 : ok G 9 v0) (h : f_X10_mixed G v0 v1 Q S) : MT yX10_mixed cX10_mixed 2 (some .int) rm_X10_mixed 0 0 (fun b => [.ref (b + v0), .int v1]) G S (QI (fun r G1 S1 => G1 = G ∧ Q r S1)) := MT.ofJ (by decide +kernel) (fun b => [(0, .ref (b + v0)), (1, .int v1)]) (fun b => rfl) (fun b => Nat.le_of_ble_eq_true rfl) (fun l b D cy p e s m below meth c C hE hn => j_X10_mixed C hE t_v0 h)
theorem hd_X10_mixed : yX10_mixed.cls ≠ "java/lang/invoke/MethodHandle" ∧ yX10_mixed.cls ≠ "java/lang/invoke/VarHandle" ∧ (parseMethodDescriptor yX10_mixed.desc).map (fun d => d.parameters.length) = some 1 := by decide +kernel
abbrev rm_X1_drawBehind : Room := { frames := 0, cells := 0, slots := 0, locals := 0 }
set_option maxHeartbeats 4000000 in
set_option maxRecDepth 100000 in
theorem j_X1_drawBehind {p : Program} {l : Launch} {e : Env} {s : State} {m : MethodId} {args : Array Value} {below : List Frame} {meth : Method} {c : Code} {b : Nat} {D : va_G} {cy : Nat → ClassId} {G : Gm} {v0 : Int32} {S : St} {Q : Int32 → St → Prop} (C : CX p s m args meth c b D cy cX1_drawBehind RX1 1 (some .int)) (hE : s.heap.size + 0 ≤ b + G.2.2) (h : f_X1_drawBehind G v0 Q S) : J p l e rm_X1_drawBehind s m args below meth c b D cy 1 (zI b D cy below args s G Q) 0 0 G S 0 [(0, .int v0)] [] := by
  unfold f_X1_drawBehind at h
  refine jB C [(.iload_n 0, 1, 0), (.i2l, 1, 0)] 2 [(0, .int v0)] [.long v0.toInt64] (by decide +kernel) rfl rfl ?_
  refine jLdc2 C 5 (by decide +kernel : decode cX1_drawBehind 2 = .ok (.ldc2_w 106, 3)) rfl wd_1097 ?_
  refine jB C [(.lmul, 1, 0)] 6 [(0, .int v0)] [.long (v0.toInt64 * 1103)] (by decide +kernel) rfl rfl ?_
  refine jLdc2 C 9 (by decide +kernel : decode cX1_drawBehind 6 = .ok (.ldc2_w 108, 3)) rfl wd_1098 ?_
  refine jB C [(.ladd, 1, 0)] 10 [(0, .int v0)] [.long ((v0.toInt64 * 1103) + 12345)] (by decide +kernel) rfl rfl ?_
  refine jLdc2 C 13 (by decide +kernel : decode cX1_drawBehind 10 = .ok (.ldc2_w 110, 3)) rfl wd_1099 ?_
  refine jLrem C 14 (by decide +kernel : decode cX1_drawBehind 13 = .ok (.lrem, 1)) rfl (by decide) ?_
  refine jB C [(.l2i, 1, 0)] 15 [(0, .int v0)] [.int ((((v0.toInt64 * 1103) + 12345) - ((v0.toInt64 * 1103) + 12345) / 1000003 * 1000003).toInt32)] (by decide +kernel) rfl rfl ?_
  exact jRetI C (by decide +kernel : decode cX1_drawBehind 15 = .ok (.ireturn, 1)) (Nat.le_refl _) (Nat.le_refl _) ⟨rfl, h⟩
theorem ok_X1_drawBehind {G : Gm} {v0 : Int32} {S : St} {Q : Int32 → St → Prop}  (h : f_X1_drawBehind G v0 Q S) : MT yX1_drawBehind cX1_drawBehind 1 (some .int) rm_X1_drawBehind 0 0 (fun b => [.int v0]) G S (QI (fun r G1 S1 => G1 = G ∧ Q r S1)) := MT.ofJ (by decide +kernel) (fun b => [(0, .int v0)]) (fun b => rfl) (fun b => Nat.le_of_ble_eq_true rfl) (fun l b D cy p e s m below meth c C hE hn => j_X1_drawBehind C hE h)
theorem hd_X1_drawBehind : yX1_drawBehind.cls ≠ "java/lang/invoke/MethodHandle" ∧ yX1_drawBehind.cls ≠ "java/lang/invoke/VarHandle" ∧ (parseMethodDescriptor yX1_drawBehind.desc).map (fun d => d.parameters.length) = some 1 := by decide +kernel
abbrev rm_X1_drawDays : Room := { frames := 5, cells := 0, slots := 0, locals := 133 }
set_option maxHeartbeats 4000000 in
set_option maxRecDepth 100000 in
theorem j_X1_drawDays_145 {p : Program} {l : Launch} {e : Env} {s : State} {m : MethodId} {args : Array Value} {below : List Frame} {meth : Method} {c : Code} {b : Nat} {D : va_G} {cy : Nat → ClassId} {G : Gm} {k22 : Int32 → Int32 → Int32 → St → Prop} {v0 : Nat} {v1 : Nat} {v3 : Int32} {v4 : Int32} {v5 : Int32} {v6 : Int32} {v7 : Int32} {S : St} {Q : Int32 → St → Prop} (C : CX p s m args meth c b D cy cX1_drawDays RX1 11 (some .int)) (hE : s.heap.size + 0 ≤ b + G.2.2) (t_v0 : ok G 1 v0) (t_v1 : ok G 4 v1) (hk22 : ∀ v5' v6' v7' S, k22 v5' v6' v7' S → J p l e rm_X1_drawDays s m args below meth c b D cy 11 (zI b D cy below args s G Q) 0 0 G S 22 [(0, .ref (b + v0)), (1, .ref (b + v1)), (3, .int v3), (4, .int v4), (5, .int (v5')), (6, .int (v6')), (7, .int (v7'))] []) (h : f_X1_drawDays_145 G k22 v0 v1 v3 v4 v5 v6 v7 Q S) : J p l e rm_X1_drawDays s m args below meth c b D cy 11 (zI b D cy below args s G Q) 0 0 G S 145 [(0, .ref (b + v0)), (1, .ref (b + v1)), (3, .int v3), (4, .int v4), (5, .int v5), (6, .int v6), (7, .int v7)] [] := by
  unfold f_X1_drawDays_145 at h
  refine jB C [(.aload_n 0, 1, 0), (.aload_n 1, 1, 0)] 147 [(0, .ref (b + v0)), (1, .ref (b + v1)), (3, .int v3), (4, .int v4), (5, .int v5), (6, .int v6), (7, .int v7)] [.ref (b + v1), .ref (b + v0)] (by decide +kernel) rfl rfl ?_
  refine jcV_I C 150 (rest := []) (ok_X1_nextDay t_v0 t_v1 h) (by decide +kernel : decode cX1_drawDays 147 = .ok (.invokevirtual 71, 3)) rfl wd_856 wd_858 wp_73 wd_6 wd_859 ⟨rfl, rfl⟩ hd_X1_nextDay ⟨Nat.le_of_ble_eq_true rfl, Nat.le_of_ble_eq_true rfl⟩ t_v0 kX1 (by decide) rfl rfl rfl (Nat.le_of_ble_eq_true rfl) ⟨Nat.zero_le _, Nat.zero_le _⟩ (fun r2 S1 h => ?_)
  refine jB C [(.pop, 1, 0), (.iinc 7 1, 3, 1)] 154 [(7, .int (v7 + 1)), (0, .ref (b + v0)), (1, .ref (b + v1)), (3, .int v3), (4, .int v4), (5, .int v5), (6, .int v6)] [] (by decide +kernel) rfl rfl ?_
  refine jGoto C 22 (by decide +kernel : decode cX1_drawDays 154 = .ok (.goto (-132), 3)) rfl ?_
  refine jSub [1, 2, 3, 4, 5, 6, 0] rfl ?_
  exact hk22 v5 v6 (v7 + 1) S1 h
set_option maxHeartbeats 4000000 in
set_option maxRecDepth 100000 in
theorem j_X1_drawDays_22_n {p : Program} {l : Launch} {e : Env} {s : State} {m : MethodId} {args : Array Value} {below : List Frame} {meth : Method} {c : Code} {b : Nat} {D : va_G} {cy : Nat → ClassId} {G : Gm} {v0 : Nat} {v1 : Nat} {v3 : Int32} {v4 : Int32} {Q : Int32 → St → Prop} (C : CX p s m args meth c b D cy cX1_drawDays RX1 11 (some .int)) (hE : s.heap.size + 0 ≤ b + G.2.2) (t_v0 : ok G 1 v0) (t_v1 : ok G 4 v1) : ∀ k (v5 : Int32) (v6 : Int32) (v7 : Int32) S, f_X1_drawDays_22_n G v0 v1 v3 v4 Q k v5 v6 v7 S → J p l e rm_X1_drawDays s m args below meth c b D cy 11 (zI b D cy below args s G Q) 0 0 G S 22 [(0, .ref (b + v0)), (1, .ref (b + v1)), (3, .int v3), (4, .int v4), (5, .int v5), (6, .int v6), (7, .int v7)] [] := by
  intro k
  induction k with
  | zero => intro v5 v6 v7 S h; exact h.elim
  | succ k ih =>
    intro v5 v6 v7 S h
    unfold f_X1_drawDays_22_n at h
    refine jB C [(.iload 7, 2, 0), (.iload_n 3, 1, 0)] 25 [(0, .ref (b + v0)), (1, .ref (b + v1)), (3, .int v3), (4, .int v4), (5, .int v5), (6, .int v6), (7, .int v7)] [.int v3, .int v7] (by decide +kernel) rfl rfl ?_
    refine jIcmp_ge C 28 157 (by decide +kernel : decode cX1_drawDays 25 = .ok (.if_icmp .ge 132, 3)) rfl rfl (fun c1 => ?_) (fun c1 => ?_)
    · have h := it1 h c1
      refine jB C [(.iload 5, 2, 0)] 159 [(0, .ref (b + v0)), (1, .ref (b + v1)), (3, .int v3), (4, .int v4), (5, .int v5), (6, .int v6), (7, .int v7)] [.int v5] (by decide +kernel) rfl rfl ?_
      exact jRetI C (by decide +kernel : decode cX1_drawDays 159 = .ok (.ireturn, 1)) (Nat.le_refl _) (Nat.le_refl _) ⟨rfl, h⟩
    · have h := it2 h c1
      refine jB C [(.aload_n 1, 1, 0), (.iconst 0, 1, 0)] 30 [(0, .ref (b + v0)), (1, .ref (b + v1)), (3, .int v3), (4, .int v4), (5, .int v5), (6, .int v6), (7, .int v7)] [.int 0, .ref (b + v1)] (by decide +kernel) rfl rfl ?_
      refine jcVN_I C 33 (rest := []) (ok_X5_termOf t_v1 h) (by decide +kernel : decode cX1_drawDays 30 = .ok (.invokevirtual 87, 3)) rfl wn_831 wd_418 wp_11 wd_2 wd_419 ⟨rfl, rfl⟩ hd_X5_termOf ⟨Nat.le_of_ble_eq_true rfl, Nat.le_of_ble_eq_true rfl⟩ t_v1 kX5 (by decide) rfl rfl rfl (Nat.le_of_ble_eq_true rfl) ⟨Nat.zero_le _, Nat.zero_le _⟩ (fun r3 S2 h => ?_)
      refine jB C [(.sipush 999, 3, 999)] 36 [(0, .ref (b + v0)), (1, .ref (b + v1)), (3, .int v3), (4, .int v4), (5, .int v5), (6, .int v6), (7, .int v7)] [.int 999, .int r3] (by decide +kernel) rfl rfl ?_
      refine jIcmp_ge C 39 157 (by decide +kernel : decode cX1_drawDays 36 = .ok (.if_icmp .ge 121, 3)) rfl rfl (fun c4 => ?_) (fun c4 => ?_)
      · have h := it1 h c4
        refine jB C [(.iload 5, 2, 0)] 159 [(0, .ref (b + v0)), (1, .ref (b + v1)), (3, .int v3), (4, .int v4), (5, .int v5), (6, .int v6), (7, .int v7)] [.int v5] (by decide +kernel) rfl rfl ?_
        exact jRetI C (by decide +kernel : decode cX1_drawDays 159 = .ok (.ireturn, 1)) (Nat.le_refl _) (Nat.le_refl _) ⟨rfl, h⟩
      · have h := it2 h c4
        refine jB C [(.iload 6, 2, 0)] 41 [(0, .ref (b + v0)), (1, .ref (b + v1)), (3, .int v3), (4, .int v4), (5, .int v5), (6, .int v6), (7, .int v7)] [.int v6] (by decide +kernel) rfl rfl ?_
        refine jcS_I C 44 (rest := []) (ok_X1_drawBehind h) (by decide +kernel : decode cX1_drawDays 41 = .ok (.invokestatic 103, 3)) rfl wd_1094 wd_1095 wd_6 wd_1096 ⟨rfl, rfl⟩ hd_X1_drawBehind ⟨Nat.le_of_ble_eq_true rfl, Nat.le_of_ble_eq_true rfl⟩ rfl rfl (Nat.le_of_ble_eq_true rfl) ⟨Nat.zero_le _, Nat.zero_le _⟩ (fun r6 S5 h => ?_)
        refine jB C [(.istore 6, 2, 0), (.iload 6, 2, 0), (.iload 4, 2, 0)] 50 [(6, .int r6), (0, .ref (b + v0)), (1, .ref (b + v1)), (3, .int v3), (4, .int v4), (5, .int v5), (7, .int v7)] [.int v4, .int r6] (by decide +kernel) rfl rfl ?_
        obtain ⟨y29, h⟩ := h
        refine jIrem C 51 (by decide +kernel : decode cX1_drawDays 50 = .ok (.irem, 1)) rfl y29 ?_
        refine jTopI (fun x7 e_x7 => ?_)
        have h := h x7 e_x7
        refine jB C [(.istore 8, 2, 0), (.iload 6, 2, 0)] 55 [(8, .int x7), (6, .int r6), (0, .ref (b + v0)), (1, .ref (b + v1)), (3, .int v3), (4, .int v4), (5, .int v5), (7, .int v7)] [.int r6] (by decide +kernel) rfl rfl ?_
        refine jcS_I C 58 (rest := []) (ok_X1_drawBehind h) (by decide +kernel : decode cX1_drawDays 55 = .ok (.invokestatic 103, 3)) rfl wd_1094 wd_1095 wd_6 wd_1096 ⟨rfl, rfl⟩ hd_X1_drawBehind ⟨Nat.le_of_ble_eq_true rfl, Nat.le_of_ble_eq_true rfl⟩ rfl rfl (Nat.le_of_ble_eq_true rfl) ⟨Nat.zero_le _, Nat.zero_le _⟩ (fun r9 S8 h => ?_)
        refine jB C [(.istore 6, 2, 0), (.iload 6, 2, 0), (.iconst 4, 1, 4)] 63 [(6, .int r9), (8, .int x7), (0, .ref (b + v0)), (1, .ref (b + v1)), (3, .int v3), (4, .int v4), (5, .int v5), (7, .int v7)] [.int 4, .int r9] (by decide +kernel) rfl rfl ?_
        refine jIrem C 64 (by decide +kernel : decode cX1_drawDays 63 = .ok (.irem, 1)) rfl (by decide) ?_
        refine jTopI (fun x10 e_x10 => ?_)
        have h := h x10 e_x10
        refine jB C [(.istore 9, 2, 0), (.iload 6, 2, 0)] 68 [(9, .int x10), (6, .int r9), (8, .int x7), (0, .ref (b + v0)), (1, .ref (b + v1)), (3, .int v3), (4, .int v4), (5, .int v5), (7, .int v7)] [.int r9] (by decide +kernel) rfl rfl ?_
        refine jcS_I C 71 (rest := []) (ok_X1_drawBehind h) (by decide +kernel : decode cX1_drawDays 68 = .ok (.invokestatic 103, 3)) rfl wd_1094 wd_1095 wd_6 wd_1096 ⟨rfl, rfl⟩ hd_X1_drawBehind ⟨Nat.le_of_ble_eq_true rfl, Nat.le_of_ble_eq_true rfl⟩ rfl rfl (Nat.le_of_ble_eq_true rfl) ⟨Nat.zero_le _, Nat.zero_le _⟩ (fun r12 S11 h => ?_)
        refine jB C [(.istore 6, 2, 0), (.iload 6, 2, 0), (.iconst 3, 1, 3)] 76 [(6, .int r12), (9, .int x10), (8, .int x7), (0, .ref (b + v0)), (1, .ref (b + v1)), (3, .int v3), (4, .int v4), (5, .int v5), (7, .int v7)] [.int 3, .int r12] (by decide +kernel) rfl rfl ?_
        refine jIrem C 77 (by decide +kernel : decode cX1_drawDays 76 = .ok (.irem, 1)) rfl (by decide) ?_
        refine jTopI (fun x13 e_x13 => ?_)
        have h := h x13 e_x13
        refine jB C [(.istore 10, 2, 0), (.iload 10, 2, 0), (.iconst 1, 1, 1)] 82 [(10, .int x13), (6, .int r12), (9, .int x10), (8, .int x7), (0, .ref (b + v0)), (1, .ref (b + v1)), (3, .int v3), (4, .int v4), (5, .int v5), (7, .int v7)] [.int 1, .int x13] (by decide +kernel) rfl rfl ?_
        refine jIcmp_eq C 85 109 (by decide +kernel : decode cX1_drawDays 82 = .ok (.if_icmp .eq 27, 3)) rfl rfl (fun c14 => ?_) (fun c14 => ?_)
        · have h := it1 h c14
          refine jB C [(.aload_n 0, 1, 0)] 110 [(10, .int x13), (6, .int r12), (9, .int x10), (8, .int x7), (0, .ref (b + v0)), (1, .ref (b + v1)), (3, .int v3), (4, .int v4), (5, .int v5), (7, .int v7)] [.ref (b + v0)] (by decide +kernel) rfl rfl ?_
          obtain ⟨a15, e_a15, h⟩ := h
          refine jGetR C 113 (by decide +kernel : decode cX1_drawDays 110 = .ok (.getfield 12, 3)) rfl t_v0 kX1 0 (by decide) rfl rfl (by decide) wd_132 e_a15 rfl (fun t_a15 => ?_)
          refine jB C [(.aload_n 1, 1, 0), (.iload 8, 2, 0)] 116 [(10, .int x13), (6, .int r12), (9, .int x10), (8, .int x7), (0, .ref (b + v0)), (1, .ref (b + v1)), (3, .int v3), (4, .int v4), (5, .int v5), (7, .int v7)] [.int x7, .ref (b + v1), .ref (b + a15)] (by decide +kernel) rfl rfl ?_
          refine jcVN_I C 119 (rest := []) (ok_X2_bars t_a15 t_v1 h) (by decide +kernel : decode cX1_drawDays 116 = .ok (.invokevirtual 83, 3)) rfl wn_829 wd_491 wp_23 wd_4 wd_492 ⟨rfl, rfl⟩ hd_X2_bars ⟨Nat.le_of_ble_eq_true rfl, Nat.le_of_ble_eq_true rfl⟩ t_a15 kX2 (by decide) rfl rfl rfl (Nat.le_of_ble_eq_true rfl) ⟨Nat.zero_le _, Nat.zero_le _⟩ (fun r17 S16 h => ?_)
          refine jIf_ne C 122 145 (by decide +kernel : decode cX1_drawDays 119 = .ok (.ifCond .ne 26, 3)) rfl rfl (fun c18 => ?_) (fun c18 => ?_)
          · have h := it2 h c18
            refine jSub [4, 5, 6, 7, 8, 1, 9] rfl ?_
            exact j_X1_drawDays_145 C hE t_v0 t_v1 ih h
          · have h := it1 h c18
            refine jB C [(.aload_n 1, 1, 0), (.iload 8, 2, 0), (.aload_n 0, 1, 0)] 126 [(10, .int x13), (6, .int r12), (9, .int x10), (8, .int x7), (0, .ref (b + v0)), (1, .ref (b + v1)), (3, .int v3), (4, .int v4), (5, .int v5), (7, .int v7)] [.ref (b + v0), .int x7, .ref (b + v1)] (by decide +kernel) rfl rfl ?_
            obtain ⟨a19, e_a19, h⟩ := h
            refine jGetR C 129 (by decide +kernel : decode cX1_drawDays 126 = .ok (.getfield 12, 3)) rfl t_v0 kX1 0 (by decide) rfl rfl (by decide) wd_132 e_a19 rfl (fun t_a19 => ?_)
            refine jB C [(.aload_n 1, 1, 0), (.aload_n 1, 1, 0)] 131 [(10, .int x13), (6, .int r12), (9, .int x10), (8, .int x7), (0, .ref (b + v0)), (1, .ref (b + v1)), (3, .int v3), (4, .int v4), (5, .int v5), (7, .int v7)] [.ref (b + v1), .ref (b + v1), .ref (b + a19), .int x7, .ref (b + v1)] (by decide +kernel) rfl rfl ?_
            refine jcVN_O C 134 (rest := [.ref (b + v1), .ref (b + a19), .int x7, .ref (b + v1)]) (ok_X5_lawInForce t_v1 h) (by decide +kernel : decode cX1_drawDays 131 = .ok (.invokevirtual 42, 3)) rfl wn_842 wd_447 wp_15 wd_2 wd_448 ⟨rfl, rfl⟩ hd_X5_lawInForce ⟨Nat.le_of_ble_eq_true rfl, Nat.le_of_ble_eq_true rfl⟩ t_v1 kX5 (by decide) rfl rfl rfl (Nat.le_of_ble_eq_true rfl) ⟨Nat.zero_le _, Nat.zero_le _⟩ (fun r21 S20 h => ?_)
            obtain ⟨t22, h⟩ := h
            refine jB C [(.iload 8, 2, 0)] 136 [(10, .int x13), (6, .int r12), (9, .int x10), (8, .int x7), (0, .ref (b + v0)), (1, .ref (b + v1)), (3, .int v3), (4, .int v4), (5, .int v5), (7, .int v7)] [.int x7, rv b r21, .ref (b + v1), .ref (b + a19), .int x7, .ref (b + v1)] (by decide +kernel) rfl rfl ?_
            refine jcVN_I C 139 (rest := [.int x7, .ref (b + v1)]) (ok_X2_glassBy t_a19 t_v1 t22 h) (by decide +kernel : decode cX1_drawDays 136 = .ok (.invokevirtual 46, 3)) rfl wn_843 wd_845 wp_72 wd_4 wd_846 ⟨rfl, rfl⟩ hd_X2_glassBy ⟨Nat.le_of_ble_eq_true rfl, Nat.le_of_ble_eq_true rfl⟩ t_a19 kX2 (by decide) rfl rfl rfl (Nat.le_of_ble_eq_true rfl) ⟨Nat.zero_le _, Nat.zero_le _⟩ (fun r24 S23 h => ?_)
            refine jcVN_V C 142 (rest := []) (ok_X5_setGlass t_v1 h) (by decide +kernel : decode cX1_drawDays 139 = .ok (.invokevirtual 50, 3)) rfl wn_848 wd_381 wp_5 wd_2 wd_382 ⟨rfl, rfl⟩ hd_X5_setGlass ⟨Nat.le_of_ble_eq_true rfl, Nat.le_of_ble_eq_true rfl⟩ t_v1 kX5 (by decide) rfl rfl rfl (Nat.le_of_ble_eq_true rfl) ⟨Nat.zero_le _, Nat.zero_le _⟩ (fun S25 h => ?_)
            refine jB C [(.iinc 5 1, 3, 1)] 145 [(5, .int (v5 + 1)), (10, .int x13), (6, .int r12), (9, .int x10), (8, .int x7), (0, .ref (b + v0)), (1, .ref (b + v1)), (3, .int v3), (4, .int v4), (7, .int v7)] [] (by decide +kernel) rfl rfl ?_
            refine jSub [5, 6, 7, 8, 0, 2, 9] rfl ?_
            exact j_X1_drawDays_145 C hE t_v0 t_v1 ih h
        · have h := it2 h c14
          refine jB C [(.aload_n 1, 1, 0), (.iload 8, 2, 0), (.iload 9, 2, 0), (.aload_n 1, 1, 0), (.iload 8, 2, 0), (.iload 9, 2, 0)] 95 [(10, .int x13), (6, .int r12), (9, .int x10), (8, .int x7), (0, .ref (b + v0)), (1, .ref (b + v1)), (3, .int v3), (4, .int v4), (5, .int v5), (7, .int v7)] [.int x10, .int x7, .ref (b + v1), .int x10, .int x7, .ref (b + v1)] (by decide +kernel) rfl rfl ?_
          refine jcVN_I C 98 (rest := [.int x10, .int x7, .ref (b + v1)]) (ok_X5_sinOf t_v1 h) (by decide +kernel : decode cX1_drawDays 95 = .ok (.invokevirtual 32, 3)) rfl wn_828 wd_398 wp_8 wd_2 wd_399 ⟨rfl, rfl⟩ hd_X5_sinOf ⟨Nat.le_of_ble_eq_true rfl, Nat.le_of_ble_eq_true rfl⟩ t_v1 kX5 (by decide) rfl rfl rfl (Nat.le_of_ble_eq_true rfl) ⟨Nat.zero_le _, Nat.zero_le _⟩ (fun r27 S26 h => ?_)
          refine jB C [(.iconst 1, 1, 1), (.iadd, 1, 0), (.iload 10, 2, 0), (.isub, 1, 0)] 103 [(10, .int x13), (6, .int r12), (9, .int x10), (8, .int x7), (0, .ref (b + v0)), (1, .ref (b + v1)), (3, .int v3), (4, .int v4), (5, .int v5), (7, .int v7)] [.int ((r27 + 1) - x13), .int x10, .int x7, .ref (b + v1)] (by decide +kernel) rfl rfl ?_
          refine jcVN_V C 106 (rest := []) (ok_X5_setSin t_v1 h) (by decide +kernel : decode cX1_drawDays 103 = .ok (.invokevirtual 38, 3)) rfl wn_841 wd_369 wp_3 wd_2 wd_370 ⟨rfl, rfl⟩ hd_X5_setSin ⟨Nat.le_of_ble_eq_true rfl, Nat.le_of_ble_eq_true rfl⟩ t_v1 kX5 (by decide) rfl rfl rfl (Nat.le_of_ble_eq_true rfl) ⟨Nat.zero_le _, Nat.zero_le _⟩ (fun S28 h => ?_)
          refine jGoto C 145 (by decide +kernel : decode cX1_drawDays 106 = .ok (.goto 39, 3)) rfl ?_
          refine jSub [4, 5, 6, 7, 8, 1, 9] rfl ?_
          exact j_X1_drawDays_145 C hE t_v0 t_v1 ih h
theorem j_X1_drawDays_22 {p : Program} {l : Launch} {e : Env} {s : State} {m : MethodId} {args : Array Value} {below : List Frame} {meth : Method} {c : Code} {b : Nat} {D : va_G} {cy : Nat → ClassId} {G : Gm} {v0 : Nat} {v1 : Nat} {v3 : Int32} {v4 : Int32} {v5 : Int32} {v6 : Int32} {v7 : Int32} {S : St} {Q : Int32 → St → Prop} (C : CX p s m args meth c b D cy cX1_drawDays RX1 11 (some .int)) (hE : s.heap.size + 0 ≤ b + G.2.2) (t_v0 : ok G 1 v0) (t_v1 : ok G 4 v1) (h : f_X1_drawDays_22 G v0 v1 v3 v4 Q v5 v6 v7 S) : J p l e rm_X1_drawDays s m args below meth c b D cy 11 (zI b D cy below args s G Q) 0 0 G S 22 [(0, .ref (b + v0)), (1, .ref (b + v1)), (3, .int v3), (4, .int v4), (5, .int v5), (6, .int v6), (7, .int v7)] [] := by
  obtain ⟨k, h⟩ := h
  exact j_X1_drawDays_22_n C hE t_v0 t_v1 k v5 v6 v7 S h
set_option maxHeartbeats 4000000 in
set_option maxRecDepth 100000 in
theorem j_X1_drawDays {p : Program} {l : Launch} {e : Env} {s : State} {m : MethodId} {args : Array Value} {below : List Frame} {meth : Method} {c : Code} {b : Nat} {D : va_G} {cy : Nat → ClassId} {G : Gm} {v0 : Nat} {v1 : Nat} {v2 : Int32} {v3 : Int32} {S : St} {Q : Int32 → St → Prop} (C : CX p s m args meth c b D cy cX1_drawDays RX1 11 (some .int)) (hE : s.heap.size + 0 ≤ b + G.2.2) (t_v0 : ok G 1 v0) (t_v1 : ok G 4 v1) (h : f_X1_drawDays G v0 v1 v2 v3 Q S) : J p l e rm_X1_drawDays s m args below meth c b D cy 11 (zI b D cy below args s G Q) 0 0 G S 0 [(0, .ref (b + v0)), (1, .ref (b + v1)), (2, .int v2), (3, .int v3)] [] := by
  unfold f_X1_drawDays at h
  refine jB C [(.aload_n 1, 1, 0)] 1 [(0, .ref (b + v0)), (1, .ref (b + v1)), (2, .int v2), (3, .int v3)] [.ref (b + v1)] (by decide +kernel) rfl rfl ?_
  refine jGetIN C 4 (by decide +kernel : decode cX1_drawDays 1 = .ok (.getfield 93, 3)) rfl t_v1 kX5 0 (by decide) rfl rfl (by decide) wn_38 ?_
  refine jTopI (fun x1 e_x1 => ?_)
  have h := h x1 e_x1
  refine jB C [(.istore 4, 2, 0), (.iload 4, 2, 0)] 8 [(4, .int x1), (0, .ref (b + v0)), (1, .ref (b + v1)), (2, .int v2), (3, .int v3)] [.int x1] (by decide +kernel) rfl rfl ?_
  refine jIf_gt C 11 13 (by decide +kernel : decode cX1_drawDays 8 = .ok (.ifCond .gt 5, 3)) rfl rfl (fun c2 => ?_) (fun c2 => ?_)
  · have h := it1 h c2
    refine jB C [(.iconst 0, 1, 0), (.istore 5, 2, 0), (.iload_n 2, 1, 0), (.istore 6, 2, 0), (.iconst 0, 1, 0), (.istore 7, 2, 0)] 22 [(7, .int 0), (6, .int v2), (5, .int 0), (4, .int x1), (0, .ref (b + v0)), (1, .ref (b + v1)), (2, .int v2), (3, .int v3)] [] (by decide +kernel) rfl rfl ?_
    refine jSub [4, 5, 7, 3, 2, 1, 0] rfl ?_
    exact j_X1_drawDays_22 C hE t_v0 t_v1 h
  · have h := it2 h c2
    refine jB C [(.iconst 0, 1, 0)] 12 [(4, .int x1), (0, .ref (b + v0)), (1, .ref (b + v1)), (2, .int v2), (3, .int v3)] [.int 0] (by decide +kernel) rfl rfl ?_
    exact jRetI C (by decide +kernel : decode cX1_drawDays 12 = .ok (.ireturn, 1)) (Nat.le_refl _) (Nat.le_refl _) ⟨rfl, h⟩
theorem ok_X1_drawDays {G : Gm} {v0 : Nat} {v1 : Nat} {v2 : Int32} {v3 : Int32} {S : St} {Q : Int32 → St → Prop}  (t_v0 : ok G 1 v0) (t_v1 : ok G 4 v1) (h : f_X1_drawDays G v0 v1 v2 v3 Q S) : MT yX1_drawDays cX1_drawDays 11 (some .int) rm_X1_drawDays 0 0 (fun b => [.ref (b + v0), .ref (b + v1), .int v2, .int v3]) G S (QI (fun r G1 S1 => G1 = G ∧ Q r S1)) := MT.ofJ (by decide +kernel) (fun b => [(0, .ref (b + v0)), (1, .ref (b + v1)), (2, .int v2), (3, .int v3)]) (fun b => rfl) (fun b => Nat.le_of_ble_eq_true rfl) (fun l b D cy p e s m below meth c C hE hn => j_X1_drawDays C hE t_v0 t_v1 h)
theorem hd_X1_drawDays : yX1_drawDays.cls ≠ "java/lang/invoke/MethodHandle" ∧ yX1_drawDays.cls ≠ "java/lang/invoke/VarHandle" ∧ (parseMethodDescriptor yX1_drawDays.desc).map (fun d => d.parameters.length) = some 3 := by decide +kernel
abbrev rm_X10_months : Room := { frames := 6, cells := 0, slots := 0, locals := 163 }
set_option maxHeartbeats 4000000 in
set_option maxRecDepth 100000 in
theorem j_X10_months_22 {p : Program} {l : Launch} {e : Env} {s : State} {m : MethodId} {args : Array Value} {below : List Frame} {meth : Method} {c : Code} {b : Nat} {D : va_G} {cy : Nat → ClassId} {G : Gm} {v0 : Nat} {S : St} {Q : Int32 → St → Prop} (C : CX p s m args meth c b D cy cX10_months RX10 3 (some .int)) (hE : s.heap.size + 0 ≤ b + G.2.2) (t_v0 : ok G 9 v0) (h : f_X10_months_22 G v0 Q S) : J p l e rm_X10_months s m args below meth c b D cy 3 (zI b D cy below args s G Q) 0 0 G S 22 [(0, .ref (b + v0))] [] := by
  unfold f_X10_months_22 at h
  refine jB C [(.aload_n 0, 1, 0), (.iconst (-1), 1, (-1))] 24 [(0, .ref (b + v0))] [.int (-1), .ref (b + v0)] (by decide +kernel) rfl rfl ?_
  refine jcV_I C 27 (rest := []) (ok_X10_refuse t_v0 h) (by decide +kernel : decode cX10_months 24 = .ok (.invokevirtual 78, 3)) rfl wd_355 wd_357 wp_0 wd_1 wd_358 ⟨rfl, rfl⟩ hd_X10_refuse ⟨Nat.le_of_ble_eq_true rfl, Nat.le_of_ble_eq_true rfl⟩ t_v0 kX10 (by decide) rfl rfl rfl (Nat.le_of_ble_eq_true rfl) ⟨Nat.zero_le _, Nat.zero_le _⟩ (fun r2 S1 h => ?_)
  exact jRetI C (by decide +kernel : decode cX10_months 27 = .ok (.ireturn, 1)) (Nat.le_refl _) (Nat.le_refl _) ⟨rfl, h⟩
set_option maxHeartbeats 4000000 in
set_option maxRecDepth 100000 in
theorem j_X10_months {p : Program} {l : Launch} {e : Env} {s : State} {m : MethodId} {args : Array Value} {below : List Frame} {meth : Method} {c : Code} {b : Nat} {D : va_G} {cy : Nat → ClassId} {G : Gm} {v0 : Nat} {v1 : Int32} {v2 : Int32} {S : St} {Q : Int32 → St → Prop} (C : CX p s m args meth c b D cy cX10_months RX10 3 (some .int)) (hE : s.heap.size + 0 ≤ b + G.2.2) (t_v0 : ok G 9 v0) (h : f_X10_months G v0 v1 v2 Q S) : J p l e rm_X10_months s m args below meth c b D cy 3 (zI b D cy below args s G Q) 0 0 G S 0 [(0, .ref (b + v0)), (1, .int v1), (2, .int v2)] [] := by
  unfold f_X10_months at h
  refine jB C [(.iload_n 1, 1, 0)] 1 [(0, .ref (b + v0)), (1, .int v1), (2, .int v2)] [.int v1] (by decide +kernel) rfl rfl ?_
  refine jIf_lt C 4 22 (by decide +kernel : decode cX10_months 1 = .ok (.ifCond .lt 21, 3)) rfl rfl (fun c1 => ?_) (fun c1 => ?_)
  · have h := it1 h c1
    refine jSub [0] rfl ?_
    exact j_X10_months_22 C hE t_v0 h
  · have h := it2 h c1
    refine jB C [(.iload_n 1, 1, 0)] 5 [(0, .ref (b + v0)), (1, .int v1), (2, .int v2)] [.int v1] (by decide +kernel) rfl rfl ?_
    refine jLdcw C 8 (by decide +kernel : decode cX10_months 5 = .ok (.ldc_w 300, 3)) rfl wd_1088 ?_
    refine jIcmp_gt C 11 22 (by decide +kernel : decode cX10_months 8 = .ok (.if_icmp .gt 14, 3)) rfl rfl (fun c2 => ?_) (fun c2 => ?_)
    · have h := it1 h c2
      refine jSub [0] rfl ?_
      exact j_X10_months_22 C hE t_v0 h
    · have h := it2 h c2
      refine jB C [(.iload_n 2, 1, 0), (.iconst 1, 1, 1)] 13 [(0, .ref (b + v0)), (1, .int v1), (2, .int v2)] [.int 1, .int v2] (by decide +kernel) rfl rfl ?_
      refine jIcmp_lt C 16 22 (by decide +kernel : decode cX10_months 13 = .ok (.if_icmp .lt 9, 3)) rfl rfl (fun c3 => ?_) (fun c3 => ?_)
      · have h := it1 h c3
        refine jSub [0] rfl ?_
        exact j_X10_months_22 C hE t_v0 h
      · have h := it2 h c3
        refine jB C [(.iload_n 2, 1, 0), (.bipush 60, 2, 60)] 19 [(0, .ref (b + v0)), (1, .int v1), (2, .int v2)] [.int 60, .int v2] (by decide +kernel) rfl rfl ?_
        refine jIcmp_le C 22 28 (by decide +kernel : decode cX10_months 19 = .ok (.if_icmp .le 9, 3)) rfl rfl (fun c4 => ?_) (fun c4 => ?_)
        · have h := it1 h c4
          refine jB C [(.aload_n 0, 1, 0)] 29 [(0, .ref (b + v0)), (1, .int v1), (2, .int v2)] [.ref (b + v0)] (by decide +kernel) rfl rfl ?_
          obtain ⟨a5, e_a5, h⟩ := h
          refine jGetR C 32 (by decide +kernel : decode cX10_months 29 = .ok (.getfield 14, 3)) rfl t_v0 kX10 0 (by decide) rfl rfl (by decide) wd_311 e_a5 rfl (fun t_a5 => ?_)
          refine jGetIN C 35 (by decide +kernel : decode cX10_months 32 = .ok (.getfield 75, 3)) rfl t_a5 kX5 0 (by decide) rfl rfl (by decide) wn_37 ?_
          refine jIf_ne C 38 45 (by decide +kernel : decode cX10_months 35 = .ok (.ifCond .ne 10, 3)) rfl rfl (fun c6 => ?_) (fun c6 => ?_)
          · have h := it2 h c6
            refine jB C [(.aload_n 0, 1, 0)] 46 [(0, .ref (b + v0)), (1, .int v1), (2, .int v2)] [.ref (b + v0)] (by decide +kernel) rfl rfl ?_
            obtain ⟨a7, e_a7, h⟩ := h
            refine jGetR C 49 (by decide +kernel : decode cX10_months 46 = .ok (.getfield 18, 3)) rfl t_v0 kX10 1 (by decide) rfl rfl (by decide) wd_312 e_a7 rfl (fun t_a7 => ?_)
            refine jB C [(.aload_n 0, 1, 0)] 50 [(0, .ref (b + v0)), (1, .int v1), (2, .int v2)] [.ref (b + v0), .ref (b + a7)] (by decide +kernel) rfl rfl ?_
            obtain ⟨a8, e_a8, h⟩ := h
            refine jGetR C 53 (by decide +kernel : decode cX10_months 50 = .ok (.getfield 14, 3)) rfl t_v0 kX10 0 (by decide) rfl rfl (by decide) wd_311 e_a8 rfl (fun t_a8 => ?_)
            refine jcVN_V C 56 (rest := []) (ok_X5_copyFrom t_a7 t_a8 h) (by decide +kernel : decode cX10_months 53 = .ok (.invokevirtual 301, 3)) rfl wn_1089 wd_782 wp_63 wd_2 wd_783 ⟨rfl, rfl⟩ hd_X5_copyFrom ⟨Nat.le_of_ble_eq_true rfl, Nat.le_of_ble_eq_true rfl⟩ t_a7 kX5 (by decide) rfl rfl rfl (Nat.le_of_ble_eq_true rfl) ⟨Nat.zero_le _, Nat.zero_le _⟩ (fun S9 h => ?_)
            refine jB C [(.aload_n 0, 1, 0), (.aload_n 0, 1, 0)] 58 [(0, .ref (b + v0)), (1, .int v1), (2, .int v2)] [.ref (b + v0), .ref (b + v0)] (by decide +kernel) rfl rfl ?_
            obtain ⟨a10, e_a10, h⟩ := h
            refine jGetR C 61 (by decide +kernel : decode cX10_months 58 = .ok (.getfield 42, 3)) rfl t_v0 kX10 5 (by decide) rfl rfl (by decide) wd_316 e_a10 rfl (fun t_a10 => ?_)
            refine jB C [(.aload_n 0, 1, 0)] 62 [(0, .ref (b + v0)), (1, .int v1), (2, .int v2)] [.ref (b + v0), .ref (b + a10), .ref (b + v0)] (by decide +kernel) rfl rfl ?_
            obtain ⟨a11, e_a11, h⟩ := h
            refine jGetR C 65 (by decide +kernel : decode cX10_months 62 = .ok (.getfield 18, 3)) rfl t_v0 kX10 1 (by decide) rfl rfl (by decide) wd_312 e_a11 rfl (fun t_a11 => ?_)
            refine jB C [(.iload_n 1, 1, 0), (.iload_n 2, 1, 0)] 67 [(0, .ref (b + v0)), (1, .int v1), (2, .int v2)] [.int v2, .int v1, .ref (b + a11), .ref (b + a10), .ref (b + v0)] (by decide +kernel) rfl rfl ?_
            refine jcVN_I C 70 (rest := [.ref (b + v0)]) (ok_X1_drawDays t_a10 t_a11 h) (by decide +kernel : decode cX10_months 67 = .ok (.invokevirtual 305, 3)) rfl wn_1090 wd_1092 wp_97 wd_6 wd_1093 ⟨rfl, rfl⟩ hd_X1_drawDays ⟨Nat.le_of_ble_eq_true rfl, Nat.le_of_ble_eq_true rfl⟩ t_a10 kX1 (by decide) rfl rfl rfl (Nat.le_of_ble_eq_true rfl) ⟨Nat.zero_le _, Nat.zero_le _⟩ (fun r13 S12 h => ?_)
            refine jcV_I C 73 (rest := []) (ok_X10_accept t_v0 h) (by decide +kernel : decode cX10_months 70 = .ok (.invokevirtual 89, 3)) rfl wd_387 wd_389 wp_7 wd_1 wd_390 ⟨rfl, rfl⟩ hd_X10_accept ⟨Nat.le_of_ble_eq_true rfl, Nat.le_of_ble_eq_true rfl⟩ t_v0 kX10 (by decide) rfl rfl rfl (Nat.le_of_ble_eq_true rfl) ⟨Nat.zero_le _, Nat.zero_le _⟩ (fun r15 S14 h => ?_)
            exact jRetI C (by decide +kernel : decode cX10_months 73 = .ok (.ireturn, 1)) (Nat.le_refl _) (Nat.le_refl _) ⟨rfl, h⟩
          · have h := it1 h c6
            refine jB C [(.aload_n 0, 1, 0), (.bipush (-3), 2, (-3))] 41 [(0, .ref (b + v0)), (1, .int v1), (2, .int v2)] [.int (-3), .ref (b + v0)] (by decide +kernel) rfl rfl ?_
            refine jcV_I C 44 (rest := []) (ok_X10_refuse t_v0 h) (by decide +kernel : decode cX10_months 41 = .ok (.invokevirtual 78, 3)) rfl wd_355 wd_357 wp_0 wd_1 wd_358 ⟨rfl, rfl⟩ hd_X10_refuse ⟨Nat.le_of_ble_eq_true rfl, Nat.le_of_ble_eq_true rfl⟩ t_v0 kX10 (by decide) rfl rfl rfl (Nat.le_of_ble_eq_true rfl) ⟨Nat.zero_le _, Nat.zero_le _⟩ (fun r17 S16 h => ?_)
            exact jRetI C (by decide +kernel : decode cX10_months 44 = .ok (.ireturn, 1)) (Nat.le_refl _) (Nat.le_refl _) ⟨rfl, h⟩
        · have h := it2 h c4
          refine jSub [0] rfl ?_
          exact j_X10_months_22 C hE t_v0 h
theorem ok_X10_months {G : Gm} {v0 : Nat} {v1 : Int32} {v2 : Int32} {S : St} {Q : Int32 → St → Prop}  (t_v0 : ok G 9 v0) (h : f_X10_months G v0 v1 v2 Q S) : MT yX10_months cX10_months 3 (some .int) rm_X10_months 0 0 (fun b => [.ref (b + v0), .int v1, .int v2]) G S (QI (fun r G1 S1 => G1 = G ∧ Q r S1)) := MT.ofJ (by decide +kernel) (fun b => [(0, .ref (b + v0)), (1, .int v1), (2, .int v2)]) (fun b => rfl) (fun b => Nat.le_of_ble_eq_true rfl) (fun l b D cy p e s m below meth c C hE hn => j_X10_months C hE t_v0 h)
theorem hd_X10_months : yX10_months.cls ≠ "java/lang/invoke/MethodHandle" ∧ yX10_months.cls ≠ "java/lang/invoke/VarHandle" ∧ (parseMethodDescriptor yX10_months.desc).map (fun d => d.parameters.length) = some 2 := by decide +kernel
abbrev rm_X3_lensAt : Room := { frames := 1, cells := 0, slots := 0, locals := 23 }
set_option maxHeartbeats 4000000 in
set_option maxRecDepth 100000 in
theorem j_X3_lensAt_9_n {p : Program} {l : Launch} {e : Env} {s : State} {m : MethodId} {args : Array Value} {below : List Frame} {meth : Method} {c : Code} {b : Nat} {D : va_G} {cy : Nat → ClassId} {G : Gm} {v0 : Int32} {v1 : Int32} {Q : Int32 → St → Prop} (C : CX p s m args meth c b D cy cX3_lensAt RX3 4 (some .int)) (hE : s.heap.size + 0 ≤ b + G.2.2) : ∀ k (v2 : Int32) (v3 : Int32) S, f_X3_lensAt_9_n G v0 v1 Q k v2 v3 S → J p l e rm_X3_lensAt s m args below meth c b D cy 4 (zI b D cy below args s G Q) 0 0 G S 9 [(0, .int v0), (1, .int v1), (2, .int v2), (3, .int v3)] [] := by
  intro k
  induction k with
  | zero => intro v2 v3 S h; exact h.elim
  | succ k ih =>
    intro v2 v3 S h
    unfold f_X3_lensAt_9_n at h
    refine jB C [(.iload_n 3, 1, 0), (.iload_n 1, 1, 0)] 11 [(0, .int v0), (1, .int v1), (2, .int v2), (3, .int v3)] [.int v1, .int v3] (by decide +kernel) rfl rfl ?_
    refine jIcmp_le C 14 25 (by decide +kernel : decode cX3_lensAt 11 = .ok (.if_icmp .le 14, 3)) rfl rfl (fun c1 => ?_) (fun c1 => ?_)
    · have h := it1 h c1
      refine jB C [(.iload_n 1, 1, 0)] 26 [(0, .int v0), (1, .int v1), (2, .int v2), (3, .int v3)] [.int v1] (by decide +kernel) rfl rfl ?_
      refine jIf_lt C 29 46 (by decide +kernel : decode cX3_lensAt 26 = .ok (.ifCond .lt 20, 3)) rfl rfl (fun c2 => ?_) (fun c2 => ?_)
      · have h := it1 h c2
        refine jB C [(.iconst (-1), 1, (-1))] 47 [(0, .int v0), (1, .int v1), (2, .int v2), (3, .int v3)] [.int (-1)] (by decide +kernel) rfl rfl ?_
        exact jRetI C (by decide +kernel : decode cX3_lensAt 47 = .ok (.ireturn, 1)) (Nat.le_refl _) (Nat.le_refl _) ⟨rfl, h⟩
      · have h := it2 h c2
        refine jB C [(.iload_n 1, 1, 0), (.iload_n 0, 1, 0)] 31 [(0, .int v0), (1, .int v1), (2, .int v2), (3, .int v3)] [.int v0, .int v1] (by decide +kernel) rfl rfl ?_
        refine jcS_I C 34 (rest := [.int v1]) (ok_X3_lensesIn h) (by decide +kernel : decode cX3_lensAt 31 = .ok (.invokestatic 15, 3)) rfl wd_407 wd_408 wd_13 wd_409 ⟨rfl, rfl⟩ hd_X3_lensesIn ⟨Nat.le_of_ble_eq_true rfl, Nat.le_of_ble_eq_true rfl⟩ rfl rfl (Nat.le_of_ble_eq_true rfl) ⟨Nat.zero_le _, Nat.zero_le _⟩ (fun r4 S3 h => ?_)
        refine jIcmp_ge C 37 46 (by decide +kernel : decode cX3_lensAt 34 = .ok (.if_icmp .ge 12, 3)) rfl rfl (fun c5 => ?_) (fun c5 => ?_)
        · have h := it1 h c5
          refine jB C [(.iconst (-1), 1, (-1))] 47 [(0, .int v0), (1, .int v1), (2, .int v2), (3, .int v3)] [.int (-1)] (by decide +kernel) rfl rfl ?_
          exact jRetI C (by decide +kernel : decode cX3_lensAt 47 = .ok (.ireturn, 1)) (Nat.le_refl _) (Nat.le_refl _) ⟨rfl, h⟩
        · have h := it2 h c5
          refine jB C [(.iload_n 2, 1, 0), (.bipush 10, 2, 10)] 40 [(0, .int v0), (1, .int v1), (2, .int v2), (3, .int v3)] [.int 10, .int v2] (by decide +kernel) rfl rfl ?_
          refine jIrem C 41 (by decide +kernel : decode cX3_lensAt 40 = .ok (.irem, 1)) rfl (by decide) ?_
          refine jB C [(.iconst 1, 1, 1), (.isub, 1, 0)] 43 [(0, .int v0), (1, .int v1), (2, .int v2), (3, .int v3)] [.int ((v2 - v2 / 10 * 10) - 1)] (by decide +kernel) rfl rfl ?_
          refine jGoto C 47 (by decide +kernel : decode cX3_lensAt 43 = .ok (.goto 4, 3)) rfl ?_
          exact jRetI C (by decide +kernel : decode cX3_lensAt 47 = .ok (.ireturn, 1)) (Nat.le_refl _) (Nat.le_refl _) ⟨rfl, h⟩
    · have h := it2 h c1
      refine jB C [(.iload_n 2, 1, 0), (.bipush 10, 2, 10)] 17 [(0, .int v0), (1, .int v1), (2, .int v2), (3, .int v3)] [.int 10, .int v2] (by decide +kernel) rfl rfl ?_
      refine jIdiv C 18 (by decide +kernel : decode cX3_lensAt 17 = .ok (.idiv, 1)) rfl (by decide) ?_
      refine jTopI (fun x6 e_x6 => ?_)
      have h := h x6 e_x6
      refine jB C [(.istore_n 2, 1, 0), (.iinc 3 (-1), 3, (-1))] 22 [(3, .int (v3 + (-1))), (2, .int x6), (0, .int v0), (1, .int v1)] [] (by decide +kernel) rfl rfl ?_
      refine jGoto C 9 (by decide +kernel : decode cX3_lensAt 22 = .ok (.goto (-13), 3)) rfl ?_
      refine jSub [2, 3, 1, 0] rfl ?_
      exact ih x6 (v3 + (-1)) S h
theorem j_X3_lensAt_9 {p : Program} {l : Launch} {e : Env} {s : State} {m : MethodId} {args : Array Value} {below : List Frame} {meth : Method} {c : Code} {b : Nat} {D : va_G} {cy : Nat → ClassId} {G : Gm} {v0 : Int32} {v1 : Int32} {v2 : Int32} {v3 : Int32} {S : St} {Q : Int32 → St → Prop} (C : CX p s m args meth c b D cy cX3_lensAt RX3 4 (some .int)) (hE : s.heap.size + 0 ≤ b + G.2.2) (h : f_X3_lensAt_9 G v0 v1 Q v2 v3 S) : J p l e rm_X3_lensAt s m args below meth c b D cy 4 (zI b D cy below args s G Q) 0 0 G S 9 [(0, .int v0), (1, .int v1), (2, .int v2), (3, .int v3)] [] := by
  obtain ⟨k, h⟩ := h
  exact j_X3_lensAt_9_n C hE k v2 v3 S h
set_option maxHeartbeats 4000000 in
set_option maxRecDepth 100000 in
theorem j_X3_lensAt {p : Program} {l : Launch} {e : Env} {s : State} {m : MethodId} {args : Array Value} {below : List Frame} {meth : Method} {c : Code} {b : Nat} {D : va_G} {cy : Nat → ClassId} {G : Gm} {v0 : Int32} {v1 : Int32} {S : St} {Q : Int32 → St → Prop} (C : CX p s m args meth c b D cy cX3_lensAt RX3 4 (some .int)) (hE : s.heap.size + 0 ≤ b + G.2.2) (h : f_X3_lensAt G v0 v1 Q S) : J p l e rm_X3_lensAt s m args below meth c b D cy 4 (zI b D cy below args s G Q) 0 0 G S 0 [(0, .int v0), (1, .int v1)] [] := by
  unfold f_X3_lensAt at h
  refine jB C [(.iload_n 0, 1, 0), (.istore_n 2, 1, 0), (.iload_n 0, 1, 0)] 3 [(2, .int v0), (0, .int v0), (1, .int v1)] [.int v0] (by decide +kernel) rfl rfl ?_
  refine jcS_I C 6 (rest := []) (ok_X3_lensesIn h) (by decide +kernel : decode cX3_lensAt 3 = .ok (.invokestatic 15, 3)) rfl wd_407 wd_408 wd_13 wd_409 ⟨rfl, rfl⟩ hd_X3_lensesIn ⟨Nat.le_of_ble_eq_true rfl, Nat.le_of_ble_eq_true rfl⟩ rfl rfl (Nat.le_of_ble_eq_true rfl) ⟨Nat.zero_le _, Nat.zero_le _⟩ (fun r2 S1 h => ?_)
  refine jB C [(.iconst 1, 1, 1), (.isub, 1, 0)] 8 [(2, .int v0), (0, .int v0), (1, .int v1)] [.int (r2 - 1)] (by decide +kernel) rfl rfl ?_
  refine jTopI (fun x3 e_x3 => ?_)
  have h := h x3 e_x3
  refine jB C [(.istore_n 3, 1, 0)] 9 [(3, .int x3), (2, .int v0), (0, .int v0), (1, .int v1)] [] (by decide +kernel) rfl rfl ?_
  refine jSub [2, 3, 1, 0] rfl ?_
  exact j_X3_lensAt_9 C hE h
theorem ok_X3_lensAt {G : Gm} {v0 : Int32} {v1 : Int32} {S : St} {Q : Int32 → St → Prop}  (h : f_X3_lensAt G v0 v1 Q S) : MT yX3_lensAt cX3_lensAt 4 (some .int) rm_X3_lensAt 0 0 (fun b => [.int v0, .int v1]) G S (QI (fun r G1 S1 => G1 = G ∧ Q r S1)) := MT.ofJ (by decide +kernel) (fun b => [(0, .int v0), (1, .int v1)]) (fun b => rfl) (fun b => Nat.le_of_ble_eq_true rfl) (fun l b D cy p e s m below meth c C hE hn => j_X3_lensAt C hE h)
theorem hd_X3_lensAt : yX3_lensAt.cls ≠ "java/lang/invoke/MethodHandle" ∧ yX3_lensAt.cls ≠ "java/lang/invoke/VarHandle" ∧ (parseMethodDescriptor yX3_lensAt.desc).map (fun d => d.parameters.length) = some 2 := by decide +kernel
abbrev rm_X10_of : Room := { frames := 4, cells := 0, slots := 0, locals := 106 }
set_option maxHeartbeats 4000000 in
set_option maxRecDepth 100000 in
theorem j_X10_of_58 {p : Program} {l : Launch} {e : Env} {s : State} {m : MethodId} {args : Array Value} {below : List Frame} {meth : Method} {c : Code} {b : Nat} {D : va_G} {cy : Nat → ClassId} {G : Gm} {v0 : Nat} {v1 : Int32} {v2 : Int32} {S : St} {Q : Int32 → St → Prop} (C : CX p s m args meth c b D cy cX10_of RX10 3 (some .int)) (hE : s.heap.size + 0 ≤ b + G.2.2) (t_v0 : ok G 9 v0) (h : f_X10_of_58 G v0 v1 v2 Q S) : J p l e rm_X10_of s m args below meth c b D cy 3 (zI b D cy below args s G Q) 0 0 G S 58 [(0, .ref (b + v0)), (1, .int v1), (2, .int v2)] [] := by
  unfold f_X10_of_58 at h
  refine jB C [(.iload_n 2, 1, 0)] 59 [(0, .ref (b + v0)), (1, .int v1), (2, .int v2)] [.int v2] (by decide +kernel) rfl rfl ?_
  by_cases c24_0 : v2 = 4
  · have h := it1 h c24_0
    refine jTabIn C 108 4 (by decide +kernel : decode cX10_of 59 = .ok (.tableswitch 121 4 12 #[49, 121, 121, 121, 121, 61, 70, 91, 100], 49)) c24_0 ⟨rfl, rfl, rfl, rfl⟩ ?_
    refine jB C [(.aload_n 0, 1, 0)] 109 [(0, .ref (b + v0)), (1, .int v1), (2, .int v2)] [.ref (b + v0)] (by decide +kernel) rfl rfl ?_
    obtain ⟨a1, e_a1, h⟩ := h
    refine jGetR C 112 (by decide +kernel : decode cX10_of 109 = .ok (.getfield 14, 3)) rfl t_v0 kX10 0 (by decide) rfl rfl (by decide) wd_311 e_a1 rfl (fun t_a1 => ?_)
    refine jB C [(.iload_n 1, 1, 0)] 113 [(0, .ref (b + v0)), (1, .int v1), (2, .int v2)] [.int v1, .ref (b + a1)] (by decide +kernel) rfl rfl ?_
    refine jcVN_I C 116 (rest := []) (ok_X5_glassOf t_a1 h) (by decide +kernel : decode cX10_of 113 = .ok (.invokevirtual 100, 3)) rfl wn_400 wd_402 wp_9 wd_2 wd_403 ⟨rfl, rfl⟩ hd_X5_glassOf ⟨Nat.le_of_ble_eq_true rfl, Nat.le_of_ble_eq_true rfl⟩ t_a1 kX5 (by decide) rfl rfl rfl (Nat.le_of_ble_eq_true rfl) ⟨Nat.zero_le _, Nat.zero_le _⟩ (fun r3 S2 h => ?_)
    refine jcSN_I C 119 (rest := []) (ok_X3_lensesIn h) (by decide +kernel : decode cX10_of 116 = .ok (.invokestatic 108, 3)) rfl wn_410 wd_408 wd_13 wd_409 ⟨rfl, rfl⟩ hd_X3_lensesIn ⟨Nat.le_of_ble_eq_true rfl, Nat.le_of_ble_eq_true rfl⟩ rfl rfl (Nat.le_of_ble_eq_true rfl) ⟨Nat.zero_le _, Nat.zero_le _⟩ (fun r5 S4 h => ?_)
    exact jRetI C (by decide +kernel : decode cX10_of 119 = .ok (.ireturn, 1)) (Nat.le_refl _) (Nat.le_refl _) ⟨rfl, h⟩
  · have h := it2 h c24_0
    by_cases c24_1 : v2 = 5
    · have h := it1 h c24_1
      refine jTabIn C 180 5 (by decide +kernel : decode cX10_of 59 = .ok (.tableswitch 121 4 12 #[49, 121, 121, 121, 121, 61, 70, 91, 100], 49)) c24_1 ⟨rfl, rfl, rfl, rfl⟩ ?_
      refine jB C [(.iconst (-1), 1, (-1))] 181 [(0, .ref (b + v0)), (1, .int v1), (2, .int v2)] [.int (-1)] (by decide +kernel) rfl rfl ?_
      exact jRetI C (by decide +kernel : decode cX10_of 181 = .ok (.ireturn, 1)) (Nat.le_refl _) (Nat.le_refl _) ⟨rfl, h⟩
    · have h := it2 h c24_1
      by_cases c24_2 : v2 = 6
      · have h := it1 h c24_2
        refine jTabIn C 180 6 (by decide +kernel : decode cX10_of 59 = .ok (.tableswitch 121 4 12 #[49, 121, 121, 121, 121, 61, 70, 91, 100], 49)) c24_2 ⟨rfl, rfl, rfl, rfl⟩ ?_
        refine jB C [(.iconst (-1), 1, (-1))] 181 [(0, .ref (b + v0)), (1, .int v1), (2, .int v2)] [.int (-1)] (by decide +kernel) rfl rfl ?_
        exact jRetI C (by decide +kernel : decode cX10_of 181 = .ok (.ireturn, 1)) (Nat.le_refl _) (Nat.le_refl _) ⟨rfl, h⟩
      · have h := it2 h c24_2
        by_cases c24_3 : v2 = 7
        · have h := it1 h c24_3
          refine jTabIn C 180 7 (by decide +kernel : decode cX10_of 59 = .ok (.tableswitch 121 4 12 #[49, 121, 121, 121, 121, 61, 70, 91, 100], 49)) c24_3 ⟨rfl, rfl, rfl, rfl⟩ ?_
          refine jB C [(.iconst (-1), 1, (-1))] 181 [(0, .ref (b + v0)), (1, .int v1), (2, .int v2)] [.int (-1)] (by decide +kernel) rfl rfl ?_
          exact jRetI C (by decide +kernel : decode cX10_of 181 = .ok (.ireturn, 1)) (Nat.le_refl _) (Nat.le_refl _) ⟨rfl, h⟩
        · have h := it2 h c24_3
          by_cases c24_4 : v2 = 8
          · have h := it1 h c24_4
            refine jTabIn C 180 8 (by decide +kernel : decode cX10_of 59 = .ok (.tableswitch 121 4 12 #[49, 121, 121, 121, 121, 61, 70, 91, 100], 49)) c24_4 ⟨rfl, rfl, rfl, rfl⟩ ?_
            refine jB C [(.iconst (-1), 1, (-1))] 181 [(0, .ref (b + v0)), (1, .int v1), (2, .int v2)] [.int (-1)] (by decide +kernel) rfl rfl ?_
            exact jRetI C (by decide +kernel : decode cX10_of 181 = .ok (.ireturn, 1)) (Nat.le_refl _) (Nat.le_refl _) ⟨rfl, h⟩
          · have h := it2 h c24_4
            by_cases c24_5 : v2 = 9
            · have h := it1 h c24_5
              refine jTabIn C 120 9 (by decide +kernel : decode cX10_of 59 = .ok (.tableswitch 121 4 12 #[49, 121, 121, 121, 121, 61, 70, 91, 100], 49)) c24_5 ⟨rfl, rfl, rfl, rfl⟩ ?_
              refine jB C [(.aload_n 0, 1, 0)] 121 [(0, .ref (b + v0)), (1, .int v1), (2, .int v2)] [.ref (b + v0)] (by decide +kernel) rfl rfl ?_
              obtain ⟨a6, e_a6, h⟩ := h
              refine jGetR C 124 (by decide +kernel : decode cX10_of 121 = .ok (.getfield 14, 3)) rfl t_v0 kX10 0 (by decide) rfl rfl (by decide) wd_311 e_a6 rfl (fun t_a6 => ?_)
              refine jB C [(.iload_n 1, 1, 0)] 125 [(0, .ref (b + v0)), (1, .int v1), (2, .int v2)] [.int v1, .ref (b + a6)] (by decide +kernel) rfl rfl ?_
              refine jcVN_I C 128 (rest := []) (ok_X5_sightOf t_a6 h) (by decide +kernel : decode cX10_of 125 = .ok (.invokevirtual 111, 3)) rfl wn_411 wd_413 wp_10 wd_2 wd_414 ⟨rfl, rfl⟩ hd_X5_sightOf ⟨Nat.le_of_ble_eq_true rfl, Nat.le_of_ble_eq_true rfl⟩ t_a6 kX5 (by decide) rfl rfl rfl (Nat.le_of_ble_eq_true rfl) ⟨Nat.zero_le _, Nat.zero_le _⟩ (fun r8 S7 h => ?_)
              exact jRetI C (by decide +kernel : decode cX10_of 128 = .ok (.ireturn, 1)) (Nat.le_refl _) (Nat.le_refl _) ⟨rfl, h⟩
            · have h := it2 h c24_5
              by_cases c24_6 : v2 = 10
              · have h := it1 h c24_6
                refine jTabIn C 129 10 (by decide +kernel : decode cX10_of 59 = .ok (.tableswitch 121 4 12 #[49, 121, 121, 121, 121, 61, 70, 91, 100], 49)) c24_6 ⟨rfl, rfl, rfl, rfl⟩ ?_
                refine jB C [(.aload_n 0, 1, 0)] 130 [(0, .ref (b + v0)), (1, .int v1), (2, .int v2)] [.ref (b + v0)] (by decide +kernel) rfl rfl ?_
                obtain ⟨a9, e_a9, h⟩ := h
                refine jGetR C 133 (by decide +kernel : decode cX10_of 130 = .ok (.getfield 35, 3)) rfl t_v0 kX10 4 (by decide) rfl rfl (by decide) wd_315 e_a9 rfl (fun t_a9 => ?_)
                refine jB C [(.aload_n 0, 1, 0)] 134 [(0, .ref (b + v0)), (1, .int v1), (2, .int v2)] [.ref (b + v0), .ref (b + a9)] (by decide +kernel) rfl rfl ?_
                obtain ⟨a10, e_a10, h⟩ := h
                refine jGetR C 137 (by decide +kernel : decode cX10_of 134 = .ok (.getfield 14, 3)) rfl t_v0 kX10 0 (by decide) rfl rfl (by decide) wd_311 e_a10 rfl (fun t_a10 => ?_)
                refine jB C [(.iload_n 1, 1, 0), (.aload_n 0, 1, 0)] 139 [(0, .ref (b + v0)), (1, .int v1), (2, .int v2)] [.ref (b + v0), .int v1, .ref (b + a10), .ref (b + a9)] (by decide +kernel) rfl rfl ?_
                obtain ⟨a11, e_a11, h⟩ := h
                refine jGetR C 142 (by decide +kernel : decode cX10_of 139 = .ok (.getfield 14, 3)) rfl t_v0 kX10 0 (by decide) rfl rfl (by decide) wd_311 e_a11 rfl (fun t_a11 => ?_)
                refine jB C [(.iload_n 1, 1, 0)] 143 [(0, .ref (b + v0)), (1, .int v1), (2, .int v2)] [.int v1, .ref (b + a11), .int v1, .ref (b + a10), .ref (b + a9)] (by decide +kernel) rfl rfl ?_
                refine jcVN_I C 146 (rest := [.int v1, .ref (b + a10), .ref (b + a9)]) (ok_X5_sightOf t_a11 h) (by decide +kernel : decode cX10_of 143 = .ok (.invokevirtual 111, 3)) rfl wn_411 wd_413 wp_10 wd_2 wd_414 ⟨rfl, rfl⟩ hd_X5_sightOf ⟨Nat.le_of_ble_eq_true rfl, Nat.le_of_ble_eq_true rfl⟩ t_a11 kX5 (by decide) rfl rfl rfl (Nat.le_of_ble_eq_true rfl) ⟨Nat.zero_le _, Nat.zero_le _⟩ (fun r13 S12 h => ?_)
                refine jcVN_I C 149 (rest := []) (ok_X2_deed t_a9 t_a10 h) (by decide +kernel : decode cX10_of 146 = .ok (.invokevirtual 114, 3)) rfl wn_426 wd_428 wp_12 wd_4 wd_429 ⟨rfl, rfl⟩ hd_X2_deed ⟨Nat.le_of_ble_eq_true rfl, Nat.le_of_ble_eq_true rfl⟩ t_a9 kX2 (by decide) rfl rfl rfl (Nat.le_of_ble_eq_true rfl) ⟨Nat.zero_le _, Nat.zero_le _⟩ (fun r15 S14 h => ?_)
                exact jRetI C (by decide +kernel : decode cX10_of 149 = .ok (.ireturn, 1)) (Nat.le_refl _) (Nat.le_refl _) ⟨rfl, h⟩
              · have h := it2 h c24_6
                by_cases c24_7 : v2 = 11
                · have h := it1 h c24_7
                  refine jTabIn C 150 11 (by decide +kernel : decode cX10_of 59 = .ok (.tableswitch 121 4 12 #[49, 121, 121, 121, 121, 61, 70, 91, 100], 49)) c24_7 ⟨rfl, rfl, rfl, rfl⟩ ?_
                  refine jB C [(.aload_n 0, 1, 0)] 151 [(0, .ref (b + v0)), (1, .int v1), (2, .int v2)] [.ref (b + v0)] (by decide +kernel) rfl rfl ?_
                  obtain ⟨a16, e_a16, h⟩ := h
                  refine jGetR C 154 (by decide +kernel : decode cX10_of 151 = .ok (.getfield 14, 3)) rfl t_v0 kX10 0 (by decide) rfl rfl (by decide) wd_311 e_a16 rfl (fun t_a16 => ?_)
                  refine jB C [(.iload_n 1, 1, 0)] 155 [(0, .ref (b + v0)), (1, .int v1), (2, .int v2)] [.int v1, .ref (b + a16)] (by decide +kernel) rfl rfl ?_
                  refine jcVN_I C 158 (rest := []) (ok_X5_wantedOf t_a16 h) (by decide +kernel : decode cX10_of 155 = .ok (.invokevirtual 118, 3)) rfl wn_485 wd_487 wp_22 wd_2 wd_488 ⟨rfl, rfl⟩ hd_X5_wantedOf ⟨Nat.le_of_ble_eq_true rfl, Nat.le_of_ble_eq_true rfl⟩ t_a16 kX5 (by decide) rfl rfl rfl (Nat.le_of_ble_eq_true rfl) ⟨Nat.zero_le _, Nat.zero_le _⟩ (fun r18 S17 h => ?_)
                  exact jRetI C (by decide +kernel : decode cX10_of 158 = .ok (.ireturn, 1)) (Nat.le_refl _) (Nat.le_refl _) ⟨rfl, h⟩
                · have h := it2 h c24_7
                  by_cases c24_8 : v2 = 12
                  · have h := it1 h c24_8
                    refine jTabIn C 159 12 (by decide +kernel : decode cX10_of 59 = .ok (.tableswitch 121 4 12 #[49, 121, 121, 121, 121, 61, 70, 91, 100], 49)) c24_8 ⟨rfl, rfl, rfl, rfl⟩ ?_
                    refine jB C [(.aload_n 0, 1, 0)] 160 [(0, .ref (b + v0)), (1, .int v1), (2, .int v2)] [.ref (b + v0)] (by decide +kernel) rfl rfl ?_
                    obtain ⟨a19, e_a19, h⟩ := h
                    refine jGetR C 163 (by decide +kernel : decode cX10_of 160 = .ok (.getfield 35, 3)) rfl t_v0 kX10 4 (by decide) rfl rfl (by decide) wd_315 e_a19 rfl (fun t_a19 => ?_)
                    refine jB C [(.aload_n 0, 1, 0)] 164 [(0, .ref (b + v0)), (1, .int v1), (2, .int v2)] [.ref (b + v0), .ref (b + a19)] (by decide +kernel) rfl rfl ?_
                    obtain ⟨a20, e_a20, h⟩ := h
                    refine jGetR C 167 (by decide +kernel : decode cX10_of 164 = .ok (.getfield 14, 3)) rfl t_v0 kX10 0 (by decide) rfl rfl (by decide) wd_311 e_a20 rfl (fun t_a20 => ?_)
                    refine jB C [(.iload_n 1, 1, 0)] 168 [(0, .ref (b + v0)), (1, .int v1), (2, .int v2)] [.int v1, .ref (b + a20), .ref (b + a19)] (by decide +kernel) rfl rfl ?_
                    refine jcVN_I C 171 (rest := []) (ok_X2_bars t_a19 t_a20 h) (by decide +kernel : decode cX10_of 168 = .ok (.invokevirtual 121, 3)) rfl wn_489 wd_491 wp_23 wd_4 wd_492 ⟨rfl, rfl⟩ hd_X2_bars ⟨Nat.le_of_ble_eq_true rfl, Nat.le_of_ble_eq_true rfl⟩ t_a19 kX2 (by decide) rfl rfl rfl (Nat.le_of_ble_eq_true rfl) ⟨Nat.zero_le _, Nat.zero_le _⟩ (fun r22 S21 h => ?_)
                    refine jIf_eq C 174 178 (by decide +kernel : decode cX10_of 171 = .ok (.ifCond .eq 7, 3)) rfl rfl (fun c23 => ?_) (fun c23 => ?_)
                    · have h := it1 h c23
                      refine jB C [(.iconst 0, 1, 0)] 179 [(0, .ref (b + v0)), (1, .int v1), (2, .int v2)] [.int 0] (by decide +kernel) rfl rfl ?_
                      exact jRetI C (by decide +kernel : decode cX10_of 179 = .ok (.ireturn, 1)) (Nat.le_refl _) (Nat.le_refl _) ⟨rfl, h⟩
                    · have h := it2 h c23
                      refine jB C [(.iconst 1, 1, 1)] 175 [(0, .ref (b + v0)), (1, .int v1), (2, .int v2)] [.int 1] (by decide +kernel) rfl rfl ?_
                      refine jGoto C 179 (by decide +kernel : decode cX10_of 175 = .ok (.goto 4, 3)) rfl ?_
                      exact jRetI C (by decide +kernel : decode cX10_of 179 = .ok (.ireturn, 1)) (Nat.le_refl _) (Nat.le_refl _) ⟨rfl, h⟩
                  · have h := it2 h c24_8
                    refine jTabOut C 180 (by decide +kernel : decode cX10_of 59 = .ok (.tableswitch 121 4 12 #[49, 121, 121, 121, 121, 61, 70, 91, 100], 49)) rfl (by have := lv_neT c24_0 (a := 4) rfl; have := lv_neT c24_1 (a := 5) rfl; have := lv_neT c24_2 (a := 6) rfl; have := lv_neT c24_3 (a := 7) rfl; have := lv_neT c24_4 (a := 8) rfl; have := lv_neT c24_5 (a := 9) rfl; have := lv_neT c24_6 (a := 10) rfl; have := lv_neT c24_7 (a := 11) rfl; have := lv_neT c24_8 (a := 12) rfl; omega) ?_
                    refine jB C [(.iconst (-1), 1, (-1))] 181 [(0, .ref (b + v0)), (1, .int v1), (2, .int v2)] [.int (-1)] (by decide +kernel) rfl rfl ?_
                    exact jRetI C (by decide +kernel : decode cX10_of 181 = .ok (.ireturn, 1)) (Nat.le_refl _) (Nat.le_refl _) ⟨rfl, h⟩
set_option maxHeartbeats 4000000 in
set_option maxRecDepth 100000 in
theorem j_X10_of_32 {p : Program} {l : Launch} {e : Env} {s : State} {m : MethodId} {args : Array Value} {below : List Frame} {meth : Method} {c : Code} {b : Nat} {D : va_G} {cy : Nat → ClassId} {G : Gm} {v0 : Nat} {v1 : Int32} {v2 : Int32} {S : St} {Q : Int32 → St → Prop} (C : CX p s m args meth c b D cy cX10_of RX10 3 (some .int)) (hE : s.heap.size + 0 ≤ b + G.2.2) (t_v0 : ok G 9 v0) (h : f_X10_of_32 G v0 v1 v2 Q S) : J p l e rm_X10_of s m args below meth c b D cy 3 (zI b D cy below args s G Q) 0 0 G S 32 [(0, .ref (b + v0)), (1, .int v1), (2, .int v2)] [] := by
  unfold f_X10_of_32 at h
  refine jB C [(.iload_n 2, 1, 0), (.iconst 5, 1, 5)] 34 [(0, .ref (b + v0)), (1, .int v1), (2, .int v2)] [.int 5, .int v2] (by decide +kernel) rfl rfl ?_
  refine jIcmp_lt C 37 58 (by decide +kernel : decode cX10_of 34 = .ok (.if_icmp .lt 24, 3)) rfl rfl (fun c1 => ?_) (fun c1 => ?_)
  · have h := it1 h c1
    refine jSub [0, 1, 2] rfl ?_
    exact j_X10_of_58 C hE t_v0 h
  · have h := it2 h c1
    refine jB C [(.iload_n 2, 1, 0), (.bipush 9, 2, 9)] 40 [(0, .ref (b + v0)), (1, .int v1), (2, .int v2)] [.int 9, .int v2] (by decide +kernel) rfl rfl ?_
    refine jIcmp_ge C 43 58 (by decide +kernel : decode cX10_of 40 = .ok (.if_icmp .ge 18, 3)) rfl rfl (fun c2 => ?_) (fun c2 => ?_)
    · have h := it1 h c2
      refine jSub [0, 1, 2] rfl ?_
      exact j_X10_of_58 C hE t_v0 h
    · have h := it2 h c2
      refine jB C [(.aload_n 0, 1, 0)] 44 [(0, .ref (b + v0)), (1, .int v1), (2, .int v2)] [.ref (b + v0)] (by decide +kernel) rfl rfl ?_
      obtain ⟨a3, e_a3, h⟩ := h
      refine jGetR C 47 (by decide +kernel : decode cX10_of 44 = .ok (.getfield 14, 3)) rfl t_v0 kX10 0 (by decide) rfl rfl (by decide) wd_311 e_a3 rfl (fun t_a3 => ?_)
      refine jB C [(.iload_n 1, 1, 0)] 48 [(0, .ref (b + v0)), (1, .int v1), (2, .int v2)] [.int v1, .ref (b + a3)] (by decide +kernel) rfl rfl ?_
      refine jcVN_I C 51 (rest := []) (ok_X5_glassOf t_a3 h) (by decide +kernel : decode cX10_of 48 = .ok (.invokevirtual 100, 3)) rfl wn_400 wd_402 wp_9 wd_2 wd_403 ⟨rfl, rfl⟩ hd_X5_glassOf ⟨Nat.le_of_ble_eq_true rfl, Nat.le_of_ble_eq_true rfl⟩ t_a3 kX5 (by decide) rfl rfl rfl (Nat.le_of_ble_eq_true rfl) ⟨Nat.zero_le _, Nat.zero_le _⟩ (fun r5 S4 h => ?_)
      refine jB C [(.iload_n 2, 1, 0), (.iconst 5, 1, 5), (.isub, 1, 0)] 54 [(0, .ref (b + v0)), (1, .int v1), (2, .int v2)] [.int (v2 - 5), .int r5] (by decide +kernel) rfl rfl ?_
      refine jcSN_I C 57 (rest := []) (ok_X3_lensAt h) (by decide +kernel : decode cX10_of 54 = .ok (.invokestatic 103, 3)) rfl wn_404 wd_405 wd_13 wd_406 ⟨rfl, rfl⟩ hd_X3_lensAt ⟨Nat.le_of_ble_eq_true rfl, Nat.le_of_ble_eq_true rfl⟩ rfl rfl (Nat.le_of_ble_eq_true rfl) ⟨Nat.zero_le _, Nat.zero_le _⟩ (fun r7 S6 h => ?_)
      exact jRetI C (by decide +kernel : decode cX10_of 57 = .ok (.ireturn, 1)) (Nat.le_refl _) (Nat.le_refl _) ⟨rfl, h⟩
set_option maxHeartbeats 4000000 in
set_option maxRecDepth 100000 in
theorem j_X10_of {p : Program} {l : Launch} {e : Env} {s : State} {m : MethodId} {args : Array Value} {below : List Frame} {meth : Method} {c : Code} {b : Nat} {D : va_G} {cy : Nat → ClassId} {G : Gm} {v0 : Nat} {v1 : Int32} {v2 : Int32} {S : St} {Q : Int32 → St → Prop} (C : CX p s m args meth c b D cy cX10_of RX10 3 (some .int)) (hE : s.heap.size + 0 ≤ b + G.2.2) (t_v0 : ok G 9 v0) (h : f_X10_of G v0 v1 v2 Q S) : J p l e rm_X10_of s m args below meth c b D cy 3 (zI b D cy below args s G Q) 0 0 G S 0 [(0, .ref (b + v0)), (1, .int v1), (2, .int v2)] [] := by
  unfold f_X10_of at h
  refine jB C [(.aload_n 0, 1, 0)] 1 [(0, .ref (b + v0)), (1, .int v1), (2, .int v2)] [.ref (b + v0)] (by decide +kernel) rfl rfl ?_
  obtain ⟨a1, e_a1, h⟩ := h
  refine jGetR C 4 (by decide +kernel : decode cX10_of 1 = .ok (.getfield 14, 3)) rfl t_v0 kX10 0 (by decide) rfl rfl (by decide) wd_311 e_a1 rfl (fun t_a1 => ?_)
  refine jB C [(.iload_n 1, 1, 0)] 5 [(0, .ref (b + v0)), (1, .int v1), (2, .int v2)] [.int v1, .ref (b + a1)] (by decide +kernel) rfl rfl ?_
  refine jcVN_I C 8 (rest := []) (ok_X5_has t_a1 h) (by decide +kernel : decode cX10_of 5 = .ok (.invokevirtual 92, 3)) rfl wn_395 wd_373 wp_4 wd_2 wd_374 ⟨rfl, rfl⟩ hd_X5_has ⟨Nat.le_of_ble_eq_true rfl, Nat.le_of_ble_eq_true rfl⟩ t_a1 kX5 (by decide) rfl rfl rfl (Nat.le_of_ble_eq_true rfl) ⟨Nat.zero_le _, Nat.zero_le _⟩ (fun r3 S2 h => ?_)
  refine jIf_ne C 11 13 (by decide +kernel : decode cX10_of 8 = .ok (.ifCond .ne 5, 3)) rfl rfl (fun c4 => ?_) (fun c4 => ?_)
  · have h := it2 h c4
    refine jB C [(.iload_n 2, 1, 0)] 14 [(0, .ref (b + v0)), (1, .int v1), (2, .int v2)] [.int v2] (by decide +kernel) rfl rfl ?_
    refine jIf_lt C 17 32 (by decide +kernel : decode cX10_of 14 = .ok (.ifCond .lt 18, 3)) rfl rfl (fun c5 => ?_) (fun c5 => ?_)
    · have h := it1 h c5
      refine jSub [0, 1, 2] rfl ?_
      exact j_X10_of_32 C hE t_v0 h
    · have h := it2 h c5
      refine jB C [(.iload_n 2, 1, 0), (.iconst 4, 1, 4)] 19 [(0, .ref (b + v0)), (1, .int v1), (2, .int v2)] [.int 4, .int v2] (by decide +kernel) rfl rfl ?_
      refine jIcmp_ge C 22 32 (by decide +kernel : decode cX10_of 19 = .ok (.if_icmp .ge 13, 3)) rfl rfl (fun c6 => ?_) (fun c6 => ?_)
      · have h := it1 h c6
        refine jSub [0, 1, 2] rfl ?_
        exact j_X10_of_32 C hE t_v0 h
      · have h := it2 h c6
        refine jB C [(.aload_n 0, 1, 0)] 23 [(0, .ref (b + v0)), (1, .int v1), (2, .int v2)] [.ref (b + v0)] (by decide +kernel) rfl rfl ?_
        obtain ⟨a7, e_a7, h⟩ := h
        refine jGetR C 26 (by decide +kernel : decode cX10_of 23 = .ok (.getfield 14, 3)) rfl t_v0 kX10 0 (by decide) rfl rfl (by decide) wd_311 e_a7 rfl (fun t_a7 => ?_)
        refine jB C [(.iload_n 1, 1, 0), (.iload_n 2, 1, 0)] 28 [(0, .ref (b + v0)), (1, .int v1), (2, .int v2)] [.int v2, .int v1, .ref (b + a7)] (by decide +kernel) rfl rfl ?_
        refine jcVN_I C 31 (rest := []) (ok_X5_sinOf t_a7 h) (by decide +kernel : decode cX10_of 28 = .ok (.invokevirtual 96, 3)) rfl wn_396 wd_398 wp_8 wd_2 wd_399 ⟨rfl, rfl⟩ hd_X5_sinOf ⟨Nat.le_of_ble_eq_true rfl, Nat.le_of_ble_eq_true rfl⟩ t_a7 kX5 (by decide) rfl rfl rfl (Nat.le_of_ble_eq_true rfl) ⟨Nat.zero_le _, Nat.zero_le _⟩ (fun r9 S8 h => ?_)
        exact jRetI C (by decide +kernel : decode cX10_of 31 = .ok (.ireturn, 1)) (Nat.le_refl _) (Nat.le_refl _) ⟨rfl, h⟩
  · have h := it1 h c4
    refine jB C [(.iconst (-1), 1, (-1))] 12 [(0, .ref (b + v0)), (1, .int v1), (2, .int v2)] [.int (-1)] (by decide +kernel) rfl rfl ?_
    exact jRetI C (by decide +kernel : decode cX10_of 12 = .ok (.ireturn, 1)) (Nat.le_refl _) (Nat.le_refl _) ⟨rfl, h⟩
theorem ok_X10_of {G : Gm} {v0 : Nat} {v1 : Int32} {v2 : Int32} {S : St} {Q : Int32 → St → Prop}  (t_v0 : ok G 9 v0) (h : f_X10_of G v0 v1 v2 Q S) : MT yX10_of cX10_of 3 (some .int) rm_X10_of 0 0 (fun b => [.ref (b + v0), .int v1, .int v2]) G S (QI (fun r G1 S1 => G1 = G ∧ Q r S1)) := MT.ofJ (by decide +kernel) (fun b => [(0, .ref (b + v0)), (1, .int v1), (2, .int v2)]) (fun b => rfl) (fun b => Nat.le_of_ble_eq_true rfl) (fun l b D cy p e s m below meth c C hE hn => j_X10_of C hE t_v0 h)
theorem hd_X10_of : yX10_of.cls ≠ "java/lang/invoke/MethodHandle" ∧ yX10_of.cls ≠ "java/lang/invoke/VarHandle" ∧ (parseMethodDescriptor yX10_of.desc).map (fun d => d.parameters.length) = some 2 := by decide +kernel
