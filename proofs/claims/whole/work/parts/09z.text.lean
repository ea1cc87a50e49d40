/-! the names' text: length() and charAt(i), through the JDK's own code -/
section TX
variable {p : Program} {l : Launch} {e : Env} {R : Room} {s : State} {m : MethodId} {args : Array Value} {below : List Frame} {meth : Method} {c : Code}
variable {b : Nat} {D : va_G} {cy : Nat → ClassId} {cc : ByteArray} {own : String} {nL : Nat} {ret : Option FieldType} {Z : State → Prop} {cells slots : Nat} {G : Gm} {S : St} {pc : Nat} {lv : List (Nat × Value)} {st : List Value}
theorem SM.of {y : MethodName} {rt : Option FieldType} {rm : Room} {av : List Value} {QQ : QC} (hy : plainFor y = true) (lv0 : List (Nat × Value)) (h0 : lv_args 0 av = lv0) (h1 : (lg_sl av).length ≤ nL)
    (h : ∀ (p : Program) (e : Env) (s : State) (m : MethodId) (below : List Frame) (meth : Method) (c : Code), CX p s m av.toArray meth c b D cy cc y.cls nL rt → J p l e rm s m av.toArray below meth c b D cy nL (MQ below (QQ b D cy) av.toArray s 0 0 (fun q => b ≤ q)) 0 0 G S 0 lv0 []) : Met l y (.code y cc nL rt :: gw) rm (va_Pc av (WU b D cy G S)) (QQ b D cy) 0 0 (fun q => b ≤ q) := by
  refine va_MetF (cc := cc) (maxL := nL) (ret := rt) hy rfl ?_
  intro p e s m args below meth c s₁ B hml hv
  obtain ⟨rfl, hw, hs⟩ := hv
  have hts := atoms_spec (ws := .code y cc nL rt :: gw) B.pre
  have hown : s.vm.findClass y.cls = some m.cls := findClass_of_methodNamed B.named
  have hl := lv_entry av (n := nL) h1
  rw [h0] at hl
  rw [lg_entry_eq]
  have hz : s.heap.size = b + G.2.2 := hw.2.2.1
  exact h p e s m below meth c ⟨B.exec, B.bytes, hown, fun w hw => hts w (List.mem_cons_of_mem _ hw), hml, B.returns, B.notSynchronized, hs, by omega⟩ s.heap [] _ hw va_S.rf hl
/-- what these methods do: nothing, and tell v -/
abbrev QK (G : Gm) (S : St) (v : Int32) : QC := QI (fun r G1 S1 => G1 = G ∧ S1 = S ∧ r = v)
abbrev QN (G : Gm) (S : St) : QC := QV (fun G1 S1 => G1 = G ∧ S1 = S)
theorem jRetT {ty : FieldType} (C : CX p s m args meth c b D cy cc own nL (some ty)) {Q : Int32 → Gm → St → Prop} {mc ms : Nat} {x : Int32} (d : decode cc pc = .ok (.ireturn, 1)) (h1 : cells ≤ mc) (h2 : slots ≤ ms) (hn : narrow ty (.int x) = .int x) (q : Q x G S) : J p l e R s m args below meth c b D cy nL (MQ below (QI Q b D cy) args s mc ms (fun q => b ≤ q)) cells slots G S pc lv [.int x] := by
  obtain ⟨hx, hb, hown, hts, hml, hr, hlk, sk, hbs⟩ := C
  intro H locs ls w v h
  exact W.widen h1 h2 (W.zret hx hb hr hn (fun t ht hW => ⟨⟨x, (G, S), rfl, q, by rw [ht]; exact w, SK.go hW (by rw [ht]; exact v.2.1) sk⟩, v.F ht⟩) v.2.2 d hlk)
/-- a call of a method of the text's -/
theorem jcT_I (C : CX p s m args meth c b D cy cc own nL ret) (n : Nat) {y : MethodName} {idx k : Nat} {cc1 : ByteArray} {nL1 : Nat} {rt : Option FieldType} {rm : Room} {As rest : List Value} {v : Int32} (hy : y.cls = "java/lang/String") (hM : Met l y (.code y cc1 nL1 rt :: gw) rm (va_Pc (.ref (cy 101) :: As) (WU b D cy G S)) (QK G S v b D cy) 0 0 (fun q => b ≤ q)) (d : decode cc pc = .ok (.invokevirtual idx, 3)) (hn : pc + 3 = n) (wl : Cond.methodLink own idx y ∈ gw) (wi2 : Cond.instanceMethod y ∈ gw) (wse : Cond.selects y.cls y y ∈ gw) (wi : Cond.initialized y.cls ∈ gw) (wc : Cond.code y cc1 nL1 rt ∈ gw) (hrm : rm.cells = 0 ∧ rm.slots = 0) (hd : y.cls ≠ "java/lang/invoke/MethodHandle" ∧ y.cls ≠ "java/lang/invoke/VarHandle" ∧ (parseMethodDescriptor y.desc).map (fun d => d.parameters.length) = some k) (hR : rm.frames + 1 ≤ R.frames ∧ 8 + (nL1 + 11) + rm.locals ≤ R.locals) (hk : As.length = k) (hw : (rest.map fun v => v.category).sum ≤ 8) (hf : cells ≤ R.cells ∧ slots ≤ R.slots) (K : J p l e R s m args below meth c b D cy nL Z cells slots G S n lv (.int v :: rest)) : J p l e R s m args below meth c b D cy nL Z cells slots G S pc lv (As.reverse ++ .ref (cy 101) :: rest) := by
  subst hn
  obtain ⟨hx, hb, hown, hts, hml, hr, hlk, sk, hbs⟩ := C
  intro H locs ls w v h
  have hp := preS (av := .ref (cy 101) :: As) sk w v
  have hrc := vk_recv sk.2.2.2.2.1.2.2.2.1 (i := 0) (by decide) v
  refine va_calli (va_runV (As := As) (rest := rest) (C := y.cls) ⟨hx, hb, hml, hown, hts⟩ hM ⟨callB_of (ret := rt) k hts (gwG wc) rfl hrm.1 hrm.2 (hts _ wi) (hts _ wl) hd hR, hts _ wi2, hts _ wse⟩ ⟨hp.1, by rw [hy]; exact hrc, hp.2⟩ rfl hk h.1 rfl (lv_room hw) d hf) v (fun _ _ q => q) (fun _ q => q) (fun r u t H1 locs1 ht hvm hq hB hz1 hk1 hS => ?_)
  obtain ⟨rfl, rfl, rfl⟩ := hq
  exact K H1 locs1 ls (by rw [← ht]; exact hB.1) hS h
theorem jcU_I (C : CX p s m args meth c b D cy cc own nL ret) (n : Nat) {y : MethodName} {idx k : Nat} {cc1 : ByteArray} {nL1 : Nat} {rt : Option FieldType} {rm : Room} {As rest : List Value} {v : Int32} (hM : Met l y (.code y cc1 nL1 rt :: gw) rm (va_Pc As (WU b D cy G S)) (QK G S v b D cy) 0 0 (fun q => b ≤ q)) (d : decode cc pc = .ok (.invokestatic idx, 3)) (hn : pc + 3 = n) (wl : Cond.methodLink own idx y ∈ gw) (wt : Cond.static y ∈ gw) (wi : Cond.initialized y.cls ∈ gw) (wc : Cond.code y cc1 nL1 rt ∈ gw) (hrm : rm.cells = 0 ∧ rm.slots = 0) (hd : y.cls ≠ "java/lang/invoke/MethodHandle" ∧ y.cls ≠ "java/lang/invoke/VarHandle" ∧ (parseMethodDescriptor y.desc).map (fun d => d.parameters.length) = some k) (hR : rm.frames + 1 ≤ R.frames ∧ 8 + (nL1 + 11) + rm.locals ≤ R.locals) (hk : As.length = k) {st0 : List Value} (hst : st0 = As.reverse ++ rest) (hw : (rest.map fun v => v.category).sum ≤ 8) (hf : cells ≤ R.cells ∧ slots ≤ R.slots) (K : J p l e R s m args below meth c b D cy nL Z cells slots G S n lv (.int v :: rest)) : J p l e R s m args below meth c b D cy nL Z cells slots G S pc lv st0 := by
  subst hn
  subst hst
  obtain ⟨hx, hb, hown, hts, hml, hr, hlk, sk, hbs⟩ := C
  intro H locs ls w v h
  refine va_calli (va_runS (As := As) (rest := rest) ⟨hx, hb, hml, hown, hts⟩ hM ⟨callB_of (ret := rt) k hts (gwG wc) rfl hrm.1 hrm.2 (hts _ wi) (hts _ wl) hd hR, hts _ wt⟩ (preS sk w v) rfl hk h.1 rfl (lv_room hw) d hf) v (fun _ _ q => q) (fun _ q => q) (fun r u t H1 locs1 ht hvm hq hB hz1 hk1 hS => ?_)
  obtain ⟨rfl, rfl, rfl⟩ := hq
  exact K H1 locs1 ls (by rw [← ht]; exact hB.1) hS h
theorem jcU_V (C : CX p s m args meth c b D cy cc own nL ret) (n : Nat) {y : MethodName} {idx k : Nat} {cc1 : ByteArray} {nL1 : Nat} {rt : Option FieldType} {rm : Room} {As rest : List Value} (hM : Met l y (.code y cc1 nL1 rt :: gw) rm (va_Pc As (WU b D cy G S)) (QN G S b D cy) 0 0 (fun q => b ≤ q)) (d : decode cc pc = .ok (.invokestatic idx, 3)) (hn : pc + 3 = n) (wl : Cond.methodLink own idx y ∈ gw) (wt : Cond.static y ∈ gw) (wi : Cond.initialized y.cls ∈ gw) (wc : Cond.code y cc1 nL1 rt ∈ gw) (hrm : rm.cells = 0 ∧ rm.slots = 0) (hd : y.cls ≠ "java/lang/invoke/MethodHandle" ∧ y.cls ≠ "java/lang/invoke/VarHandle" ∧ (parseMethodDescriptor y.desc).map (fun d => d.parameters.length) = some k) (hR : rm.frames + 1 ≤ R.frames ∧ 8 + (nL1 + 11) + rm.locals ≤ R.locals) (hk : As.length = k) {st0 : List Value} (hst : st0 = As.reverse ++ rest) (hw : (rest.map fun v => v.category).sum ≤ 8) (hf : cells ≤ R.cells ∧ slots ≤ R.slots) (K : J p l e R s m args below meth c b D cy nL Z cells slots G S n lv rest) : J p l e R s m args below meth c b D cy nL Z cells slots G S pc lv st0 := by
  subst hn
  subst hst
  obtain ⟨hx, hb, hown, hts, hml, hr, hlk, sk, hbs⟩ := C
  intro H locs ls w v h
  refine va_callv (va_runS (As := As) (rest := rest) ⟨hx, hb, hml, hown, hts⟩ hM ⟨callB_of (ret := rt) k hts (gwG wc) rfl hrm.1 hrm.2 (hts _ wi) (hts _ wl) hd hR, hts _ wt⟩ (preS sk w v) rfl hk h.1 rfl (lv_room hw) d hf) v (fun _ _ q => q) (fun _ q => q) (fun u t H1 locs1 ht hvm hq hB hz1 hk1 hS => ?_)
  obtain ⟨rfl, rfl⟩ := hq
  exact K H1 locs1 ls (by rw [← ht]; exact hB.1) hS h
theorem jLdcS (C : CX p s m args meth c b D cy cc own nL ret) (n : Nat) (d : decode cc pc = .ok (.ldc 90, 2)) (hn : pc + 2 = n) (ho : own = "SinLenses$Reader") (K : J p l e R s m args below meth c b D cy nL Z cells slots G S n lv (.ref (cy 101) :: st)) : J p l e R s m args below meth c b D cy nL Z cells slots G S pc lv st := by
  subst hn
  subst ho
  obtain ⟨hx, hb, hown, hts, hml, hr, hlk, sk, hbs⟩ := C
  intro H locs ls w v h
  exact va_ldcS hx hb hown sk.2.2.2.2.1.2.2.2.2.1 d (K H locs ls w v h)
theorem jCompact (C : CX p s m args meth c b D cy cc own nL ret) (n : Nat) {idx : Nat} (d : decode cc pc = .ok (.getstatic idx, 3)) (hn : pc + 3 = n) (wl : Cond.fieldLink own idx "java/lang/String" "COMPACT_STRINGS" "Z" ∈ gw) (K : J p l e R s m args below meth c b D cy nL Z cells slots G S n lv (.int 1 :: st)) : J p l e R s m args below meth c b D cy nL Z cells slots G S pc lv st := by
  subst hn
  obtain ⟨hx, hb, hown, hts, hml, hr, hlk, sk, hbs⟩ := C
  intro H locs ls w v h
  exact va_gets hx hb sk.2.2.2.2.1.2.2.1 v hown (hts _ wl) (fun _ h => h) d (K H locs ls w v h)
theorem jFormat (C : CX p s m args meth c b D cy cc own nL ret) (n : Nat) {idx : Nat} (d : decode cc pc = .ok (.getstatic idx, 3)) (hn : pc + 3 = n) (wl : Cond.fieldLink own idx "jdk/internal/util/Preconditions" "SIOOBE_FORMATTER" "Ljava/util/function/BiFunction;" ∈ gw) (K : ∀ r, J p l e R s m args below meth c b D cy nL Z cells slots G S n lv (va_rf r :: st)) : J p l e R s m args below meth c b D cy nL Z cells slots G S pc lv st := by
  subst hn
  obtain ⟨hx, hb, hown, hts, hml, hr, hlk, sk, hbs⟩ := C
  intro H locs ls w v h
  rcases sk.2.2.2.2.1.2.2.2.2.2 with hz | ⟨t, hz⟩
  · exact va_gets hx hb hz v hown (hts _ wl) (fun _ h => h) d (K none H locs ls w v h)
  · exact va_gets hx hb hz v hown (hts _ wl) (fun _ h => h) d (K (some t) H locs ls w v h)
theorem jCoder (C : CX p s m args meth c b D cy cc own nL ret) (n : Nat) {idx : Nat} (d : decode cc pc = .ok (.getfield idx, 3)) (hn : pc + 3 = n) (wl : Cond.fieldLink own idx "java/lang/String" "coder" "B" ∈ gw) (K : J p l e R s m args below meth c b D cy nL Z cells slots G S n lv (.int 0 :: st)) : J p l e R s m args below meth c b D cy nL Z cells slots G S pc lv (.ref (cy 101) :: st) := by
  subst hn
  obtain ⟨hx, hb, hown, hts, hml, hr, hlk, sk, hbs⟩ := C
  intro H locs ls w v h
  exact vk_getf hx hb ((sk.2.2.2.2.1.2.2.2.1.1 0 (by decide)).2.1) v hown (hts _ wl) (fun _ h => h) d (K H locs ls w v h)
theorem jValue (C : CX p s m args meth c b D cy cc own nL ret) (n : Nat) {idx : Nat} (d : decode cc pc = .ok (.getfield idx, 3)) (hn : pc + 3 = n) (wl : Cond.fieldLink own idx "java/lang/String" "value" "[B" ∈ gw) (K : J p l e R s m args below meth c b D cy nL Z cells slots G S n lv (.ref (cy 102) :: st)) : J p l e R s m args below meth c b D cy nL Z cells slots G S pc lv (.ref (cy 101) :: st) := by
  subst hn
  obtain ⟨hx, hb, hown, hts, hml, hr, hlk, sk, hbs⟩ := C
  intro H locs ls w v h
  exact vk_getf hx hb ((sk.2.2.2.2.1.2.2.2.1.1 0 (by decide)).2.2.1) v hown (hts _ wl) (fun _ h => h) d (K H locs ls w v h)
theorem jVlen (C : CX p s m args meth c b D cy cc own nL ret) (n : Nat) (d : decode cc pc = .ok (.arraylength, 1)) (hn : pc + 1 = n) (K : J p l e R s m args below meth c b D cy nL Z cells slots G S n lv (.int 137 :: st)) : J p l e R s m args below meth c b D cy nL Z cells slots G S pc lv (.ref (cy 102) :: st) := by
  subst hn
  obtain ⟨hx, hb, hown, hts, hml, hr, hlk, sk, hbs⟩ := C
  intro H locs ls w v h
  exact va_tlen hx hb ((sk.2.2.2.2.1.2.2.2.1.1 0 (by decide)).2.2.2) v (by decide) d (K H locs ls w v h)
theorem jVald (C : CX p s m args meth c b D cy cc own nL ret) (n : Nat) {i : Int32} (d : decode cc pc = .ok (.baload, 1)) (hn : pc + 1 = n) (hin : vp_in i 137) (K : J p l e R s m args below meth c b D cy nL Z cells slots G S n lv (.int (chS i) :: st)) : J p l e R s m args below meth c b D cy nL Z cells slots G S pc lv (.int i :: .ref (cy 102) :: st) := by
  subst hn
  obtain ⟨hx, hb, hown, hts, hml, hr, hlk, sk, hbs⟩ := C
  intro H locs ls w v h
  exact va_tb hx hb ((sk.2.2.2.2.1.2.2.2.1.1 0 (by decide)).2.2.2) v hin rfl d (K H locs ls w v h)
theorem jI2c (C : CX p s m args meth c b D cy cc own nL ret) (n : Nat) {x y : Int32} (d : decode cc pc = .ok (.i2c, 1)) (hn : pc + 1 = n) (hxy : (x.toUInt32 % 65536).toInt32 = y) (K : J p l e R s m args below meth c b D cy nL Z cells slots G S n lv (.int y :: st)) : J p l e R s m args below meth c b D cy nL Z cells slots G S pc lv (.int x :: st) := by
  subst hn
  obtain ⟨hx, hb, hown, hts, hml, hr, hlk, sk, hbs⟩ := C
  intro H locs ls w v h
  exact lv_i2c hx hb d hxy (K H locs ls w v h)
end TX
theorem chS_ok : ∀ k, k < 137 → ((byS.getD k 0 &&& 255).toUInt32 % 65536).toInt32 = byS.getD k 0 ∧ narrow .char (.int (byS.getD k 0)) = .int (byS.getD k 0) := by decide +kernel
abbrev rmT (f n : Nat) : Room := { frames := f, cells := 0, slots := 0, locals := n }
theorem ok_coder {l : Launch} {b : Nat} {D : va_G} {cy : Nat → ClassId} {G : Gm} {S : St} : Met l yJ0_coder_7d493 (.code yJ0_coder_7d493 cJ0_coder_7d493 1 (some .byte) :: gw) (rmT 0 0) (va_Pc [.ref (cy 101)] (WU b D cy G S)) (QK G S 0 b D cy) 0 0 (fun q => b ≤ q) := by
  refine SM.of (by decide +kernel) [(0, .ref (cy 101))] rfl (Nat.le_of_ble_eq_true rfl) (fun p e s m below meth c C => ?_)
  refine jCompact C 3 (by decide +kernel : decode cJ0_coder_7d493 0 = .ok (.getstatic 38, 3)) rfl wd_623 ?_
  refine jIf_eq C 6 13 (by decide +kernel : decode cJ0_coder_7d493 3 = .ok (.ifCond .eq 10, 3)) rfl rfl (fun c1 => absurd c1 (by decide)) (fun c1 => ?_)
  refine jB C [(.aload_n 0, 1, 0)] 7 [(0, .ref (cy 101))] [.ref (cy 101)] (by decide +kernel) rfl rfl ?_
  refine jCoder C 10 (by decide +kernel : decode cJ0_coder_7d493 7 = .ok (.getfield 15, 3)) rfl wd_1856 ?_
  refine jGoto C 14 (by decide +kernel : decode cJ0_coder_7d493 10 = .ok (.goto 4, 3)) rfl ?_
  exact jRetT C (by decide +kernel : decode cJ0_coder_7d493 14 = .ok (.ireturn, 1)) (Nat.le_refl _) (Nat.le_refl _) (by decide) ⟨rfl, rfl, rfl⟩
theorem ok_isLatin1 {l : Launch} {b : Nat} {D : va_G} {cy : Nat → ClassId} {G : Gm} {S : St} : Met l yJ0_isLatin1_aae02 (.code yJ0_isLatin1_aae02 cJ0_isLatin1_aae02 1 (some .boolean) :: gw) (rmT 0 0) (va_Pc [.ref (cy 101)] (WU b D cy G S)) (QK G S 1 b D cy) 0 0 (fun q => b ≤ q) := by
  refine SM.of (by decide +kernel) [(0, .ref (cy 101))] rfl (Nat.le_of_ble_eq_true rfl) (fun p e s m below meth c C => ?_)
  refine jCompact C 3 (by decide +kernel : decode cJ0_isLatin1_aae02 0 = .ok (.getstatic 38, 3)) rfl wd_623 ?_
  refine jIf_eq C 6 17 (by decide +kernel : decode cJ0_isLatin1_aae02 3 = .ok (.ifCond .eq 14, 3)) rfl rfl (fun c1 => absurd c1 (by decide)) (fun c1 => ?_)
  refine jB C [(.aload_n 0, 1, 0)] 7 [(0, .ref (cy 101))] [.ref (cy 101)] (by decide +kernel) rfl rfl ?_
  refine jCoder C 10 (by decide +kernel : decode cJ0_isLatin1_aae02 7 = .ok (.getfield 15, 3)) rfl wd_1856 ?_
  refine jIf_ne C 13 17 (by decide +kernel : decode cJ0_isLatin1_aae02 10 = .ok (.ifCond .ne 7, 3)) rfl rfl (fun c1 => absurd rfl c1) (fun c1 => ?_)
  refine jB C [(.iconst 1, 1, 1)] 14 [(0, .ref (cy 101))] [.int 1] (by decide +kernel) rfl rfl ?_
  refine jGoto C 18 (by decide +kernel : decode cJ0_isLatin1_aae02 14 = .ok (.goto 4, 3)) rfl ?_
  exact jRetT C (by decide +kernel : decode cJ0_isLatin1_aae02 18 = .ok (.ireturn, 1)) (Nat.le_refl _) (Nat.le_refl _) (by decide) ⟨rfl, rfl, rfl⟩
theorem ok_length {l : Launch} {b : Nat} {D : va_G} {cy : Nat → ClassId} {G : Gm} {S : St} : Met l yJ0_length_8abf5 (.code yJ0_length_8abf5 cJ0_length_8abf5 1 (some .int) :: gw) (rmT 1 30) (va_Pc [.ref (cy 101)] (WU b D cy G S)) (QK G S 137 b D cy) 0 0 (fun q => b ≤ q) := by
  refine SM.of (by decide +kernel) [(0, .ref (cy 101))] rfl (Nat.le_of_ble_eq_true rfl) (fun p e s m below meth c C => ?_)
  refine jB C [(.aload_n 0, 1, 0)] 1 [(0, .ref (cy 101))] [.ref (cy 101)] (by decide +kernel) rfl rfl ?_
  refine jValue C 4 (by decide +kernel : decode cJ0_length_8abf5 1 = .ok (.getfield 9, 3)) rfl wd_1855 ?_
  refine jVlen C 5 (by decide +kernel : decode cJ0_length_8abf5 4 = .ok (.arraylength, 1)) rfl ?_
  refine jB C [(.aload_n 0, 1, 0)] 6 [(0, .ref (cy 101))] [.ref (cy 101), .int 137] (by decide +kernel) rfl rfl ?_
  refine jcT_I C 9 (As := []) (rest := [.int 137]) rfl ok_coder (by decide +kernel : decode cJ0_length_8abf5 6 = .ok (.invokevirtual 335, 3)) rfl wd_619 wd_620 wd_621 wd_14 wd_622 ⟨rfl, rfl⟩ (by decide +kernel) ⟨Nat.le_of_ble_eq_true rfl, Nat.le_of_ble_eq_true rfl⟩ rfl (Nat.le_of_ble_eq_true rfl) ⟨Nat.zero_le _, Nat.zero_le _⟩ ?_
  refine jB C [(.ishr, 1, 0)] 10 [(0, .ref (cy 101))] [.int (137 >>> ((0 : Int32) &&& 31))] (by decide +kernel) rfl rfl ?_
  exact jRetI C (by decide +kernel : decode cJ0_length_8abf5 10 = .ok (.ireturn, 1)) (Nat.le_refl _) (Nat.le_refl _) ⟨rfl, rfl, by decide⟩
theorem ok_check3 {l : Launch} {b : Nat} {D : va_G} {cy : Nat → ClassId} {G : Gm} {S : St} {i n : Int32} {r : Option Nat} (h0 : ¬ i < 0) (h1 : i < n) : Met l yJ3_checkIndex_8e157 (.code yJ3_checkIndex_8e157 cJ3_checkIndex_8e157 3 (some .int) :: gw) (rmT 0 0) (va_Pc [.int i, .int n, va_rf r] (WU b D cy G S)) (QK G S i b D cy) 0 0 (fun q => b ≤ q) := by
  refine SM.of (by decide +kernel) [(0, .int i), (1, .int n), (2, va_rf r)] (by cases r <;> rfl) (by cases r <;> exact Nat.le_of_ble_eq_true rfl) (fun p e s m below meth c C => ?_)
  refine jB C [(.iload_n 0, 1, 0)] 1 [(0, .int i), (1, .int n), (2, va_rf r)] [.int i] (by decide +kernel) rfl rfl ?_
  refine jIf_lt C 4 9 (by decide +kernel : decode cJ3_checkIndex_8e157 1 = .ok (.ifCond .lt 8, 3)) rfl rfl (fun c1 => absurd c1 h0) (fun c1 => ?_)
  refine jB C [(.iload_n 0, 1, 0), (.iload_n 1, 1, 0)] 6 [(0, .int i), (1, .int n), (2, va_rf r)] [.int n, .int i] (by decide +kernel) rfl rfl ?_
  refine jIcmp_lt C 9 16 (by decide +kernel : decode cJ3_checkIndex_8e157 6 = .ok (.if_icmp .lt 10, 3)) rfl rfl (fun c2 => ?_) (fun c2 => absurd h1 c2)
  refine jB C [(.iload_n 0, 1, 0)] 17 [(0, .int i), (1, .int n), (2, va_rf r)] [.int i] (by decide +kernel) rfl rfl ?_
  exact jRetI C (by decide +kernel : decode cJ3_checkIndex_8e157 17 = .ok (.ireturn, 1)) (Nat.le_refl _) (Nat.le_refl _) ⟨rfl, rfl, rfl⟩
theorem ok_check0 {l : Launch} {b : Nat} {D : va_G} {cy : Nat → ClassId} {G : Gm} {S : St} {i n : Int32} (h0 : ¬ i < 0) (h1 : i < n) : Met l yJ0_checkIndex_df160 (.code yJ0_checkIndex_df160 cJ0_checkIndex_df160 2 none :: gw) (rmT 1 30) (va_Pc [.int i, .int n] (WU b D cy G S)) (QN G S b D cy) 0 0 (fun q => b ≤ q) := by
  refine SM.of (by decide +kernel) [(0, .int i), (1, .int n)] rfl (Nat.le_of_ble_eq_true rfl) (fun p e s m below meth c C => ?_)
  refine jB C [(.iload_n 0, 1, 0), (.iload_n 1, 1, 0)] 2 [(0, .int i), (1, .int n)] [.int n, .int i] (by decide +kernel) rfl rfl ?_
  refine jFormat C 5 (by decide +kernel : decode cJ0_checkIndex_df160 2 = .ok (.getstatic 1053, 3)) rfl wd_639 (fun r => ?_)
  refine jcU_I C 8 (k := 3) (As := [.int i, .int n, va_rf r]) (rest := []) (ok_check3 h0 h1) (by decide +kernel : decode cJ0_checkIndex_df160 5 = .ok (.invokestatic 1059, 3)) rfl wd_641 wd_642 wd_16 wd_643 ⟨rfl, rfl⟩ (by decide +kernel) ⟨Nat.le_of_ble_eq_true rfl, Nat.le_of_ble_eq_true rfl⟩ rfl rfl (Nat.le_of_ble_eq_true rfl) ⟨Nat.zero_le _, Nat.zero_le _⟩ ?_
  refine jB C [(.pop, 1, 0)] 9 [(0, .int i), (1, .int n)] [] (by decide +kernel) rfl rfl ?_
  exact jRetV C (by decide +kernel : decode cJ0_checkIndex_df160 9 = .ok (.return_, 1)) (Nat.le_refl _) (Nat.le_refl _) ⟨rfl, rfl⟩
theorem ok_latinAt {l : Launch} {b : Nat} {D : va_G} {cy : Nat → ClassId} {G : Gm} {S : St} {i : Int32} (hin : vp_in i 137) : Met l yJ1_charAt_3b067 (.code yJ1_charAt_3b067 cJ1_charAt_3b067 2 (some .char) :: gw) (rmT 2 60) (va_Pc [.ref (cy 102), .int i] (WU b D cy G S)) (QK G S (chS i) b D cy) 0 0 (fun q => b ≤ q) := by
  obtain ⟨k, hk, rfl⟩ := vp_in_of hin (by decide)
  have h0 : ¬ nI k < 0 := nI_pos (by omega)
  have h1 : nI k < 137 := nI_lt (b := 137) hk (by decide)
  have hc := chS_ok k hk
  have ek : chS (nI k) = byS.getD k 0 := by unfold chS; rw [nI_clamp (by omega)]
  refine SM.of (by decide +kernel) [(0, .ref (cy 102)), (1, .int (nI k))] rfl (Nat.le_of_ble_eq_true rfl) (fun p e s m below meth c C => ?_)
  refine jB C [(.iload_n 1, 1, 0), (.aload_n 0, 1, 0)] 2 [(0, .ref (cy 102)), (1, .int (nI k))] [.ref (cy 102), .int (nI k)] (by decide +kernel) rfl rfl ?_
  refine jVlen C 3 (by decide +kernel : decode cJ1_charAt_3b067 2 = .ok (.arraylength, 1)) rfl ?_
  refine jcU_V C 6 (k := 2) (As := [.int (nI k), .int 137]) (rest := []) (ok_check0 h0 h1) (by decide +kernel : decode cJ1_charAt_3b067 3 = .ok (.invokestatic 9, 3)) rfl wd_636 wd_637 wd_14 wd_638 ⟨rfl, rfl⟩ (by decide +kernel) ⟨Nat.le_of_ble_eq_true rfl, Nat.le_of_ble_eq_true rfl⟩ rfl rfl (Nat.le_of_ble_eq_true rfl) ⟨Nat.zero_le _, Nat.zero_le _⟩ ?_
  refine jB C [(.aload_n 0, 1, 0), (.iload_n 1, 1, 0)] 8 [(0, .ref (cy 102)), (1, .int (nI k))] [.int (nI k), .ref (cy 102)] (by decide +kernel) rfl rfl ?_
  refine jVald C 9 (by decide +kernel : decode cJ1_charAt_3b067 8 = .ok (.baload, 1)) rfl hin ?_
  refine jB C [(.sipush 255, 3, 255), (.iand, 1, 0)] 13 [(0, .ref (cy 102)), (1, .int (nI k))] [.int (chS (nI k) &&& 255)] (by decide +kernel) rfl rfl ?_
  refine jI2c C 14 (y := chS (nI k)) (by decide +kernel : decode cJ1_charAt_3b067 13 = .ok (.i2c, 1)) rfl (by rw [ek]; exact hc.1) ?_
  exact jRetT C (by decide +kernel : decode cJ1_charAt_3b067 14 = .ok (.ireturn, 1)) (Nat.le_refl _) (Nat.le_refl _) (by rw [ek]; exact hc.2) ⟨rfl, rfl, rfl⟩
theorem chS_nar {i : Int32} (hin : vp_in i 137) : narrow .char (.int (chS i)) = .int (chS i) := by
  obtain ⟨k, hk, rfl⟩ := vp_in_of hin (by decide)
  have hc := chS_ok k hk
  have e : chS (nI k) = byS.getD k 0 := by unfold chS; rw [nI_clamp (by omega)]
  rw [e]
  exact hc.2
theorem ok_charAt {l : Launch} {b : Nat} {D : va_G} {cy : Nat → ClassId} {G : Gm} {S : St} {i : Int32} (hin : vp_in i 137) : Met l yJ0_charAt_5068e (.code yJ0_charAt_5068e cJ0_charAt_5068e 2 (some .char) :: gw) (rmT 3 90) (va_Pc [.ref (cy 101), .int i] (WU b D cy G S)) (QK G S (chS i) b D cy) 0 0 (fun q => b ≤ q) := by
  refine SM.of (by decide +kernel) [(0, .ref (cy 101)), (1, .int i)] rfl (Nat.le_of_ble_eq_true rfl) (fun p e s m below meth c C => ?_)
  refine jB C [(.aload_n 0, 1, 0)] 1 [(0, .ref (cy 101)), (1, .int i)] [.ref (cy 101)] (by decide +kernel) rfl rfl ?_
  refine jcT_I C 4 (As := []) (rest := []) rfl ok_isLatin1 (by decide +kernel : decode cJ0_charAt_5068e 1 = .ok (.invokevirtual 492, 3)) rfl wd_629 wd_630 wd_631 wd_14 wd_632 ⟨rfl, rfl⟩ (by decide +kernel) ⟨Nat.le_of_ble_eq_true rfl, Nat.le_of_ble_eq_true rfl⟩ rfl (Nat.le_of_ble_eq_true rfl) ⟨Nat.zero_le _, Nat.zero_le _⟩ ?_
  refine jIf_eq C 7 16 (by decide +kernel : decode cJ0_charAt_5068e 4 = .ok (.ifCond .eq 12, 3)) rfl rfl (fun c1 => absurd c1 (by decide)) (fun c1 => ?_)
  refine jB C [(.aload_n 0, 1, 0)] 8 [(0, .ref (cy 101)), (1, .int i)] [.ref (cy 101)] (by decide +kernel) rfl rfl ?_
  refine jValue C 11 (by decide +kernel : decode cJ0_charAt_5068e 8 = .ok (.getfield 9, 3)) rfl wd_1855 ?_
  refine jB C [(.iload_n 1, 1, 0)] 12 [(0, .ref (cy 101)), (1, .int i)] [.int i, .ref (cy 102)] (by decide +kernel) rfl rfl ?_
  refine jcU_I C 15 (k := 2) (As := [.ref (cy 102), .int i]) (rest := []) (ok_latinAt hin) (by decide +kernel : decode cJ0_charAt_5068e 12 = .ok (.invokestatic 495, 3)) rfl wd_633 wd_634 wd_15 wd_635 ⟨rfl, rfl⟩ (by decide +kernel) ⟨Nat.le_of_ble_eq_true rfl, Nat.le_of_ble_eq_true rfl⟩ rfl rfl (Nat.le_of_ble_eq_true rfl) ⟨Nat.zero_le _, Nat.zero_le _⟩ ?_
  exact jRetT C (by decide +kernel : decode cJ0_charAt_5068e 15 = .ok (.ireturn, 1)) (Nat.le_refl _) (Nat.le_refl _) (chS_nar hin) ⟨rfl, rfl, rfl⟩
theorem hd_len : yJ0_length_8abf5.cls ≠ "java/lang/invoke/MethodHandle" ∧ yJ0_length_8abf5.cls ≠ "java/lang/invoke/VarHandle" ∧ (parseMethodDescriptor yJ0_length_8abf5.desc).map (fun d => d.parameters.length) = some 0 := by decide +kernel
theorem hd_chr : yJ0_charAt_5068e.cls ≠ "java/lang/invoke/MethodHandle" ∧ yJ0_charAt_5068e.cls ≠ "java/lang/invoke/VarHandle" ∧ (parseMethodDescriptor yJ0_charAt_5068e.desc).map (fun d => d.parameters.length) = some 1 := by decide +kernel
section TY
variable {p : Program} {l : Launch} {e : Env} {R : Room} {s : State} {m : MethodId} {args : Array Value} {below : List Frame} {meth : Method} {c : Code}
variable {b : Nat} {D : va_G} {cy : Nat → ClassId} {cc : ByteArray} {own : String} {nL : Nat} {ret : Option FieldType} {Z : State → Prop} {G : Gm} {S : St} {pc : Nat} {lv : List (Nat × Value)} {st : List Value}
theorem jSLen (C : CX p s m args meth c b D cy cc own nL ret) (n : Nat) {idx : Nat} (d : decode cc pc = .ok (.invokevirtual idx, 3)) (hn : pc + 3 = n) (wl : Cond.methodLink own idx yJ0_length_8abf5 ∈ gw) (hF : 4 ≤ R.frames) (hL : 200 ≤ R.locals) (hw : (st.map fun v => v.category).sum ≤ 8) (K : J p l e R s m args below meth c b D cy nL Z 0 0 G S n lv (.int 137 :: st)) : J p l e R s m args below meth c b D cy nL Z 0 0 G S pc lv (.ref (cy 101) :: st) := jcT_I C n (As := []) (rest := st) rfl ok_length d hn wl wd_616 wd_617 wd_14 wd_618 ⟨rfl, rfl⟩ hd_len ⟨by show 1 + 1 ≤ _; omega, by show 8 + (1 + 11) + 30 ≤ _; omega⟩ rfl hw ⟨Nat.zero_le _, Nat.zero_le _⟩ K
theorem jSChar (C : CX p s m args meth c b D cy cc own nL ret) (n : Nat) {idx : Nat} {i : Int32} (d : decode cc pc = .ok (.invokevirtual idx, 3)) (hn : pc + 3 = n) (hin : vp_in i 137) (wl : Cond.methodLink own idx yJ0_charAt_5068e ∈ gw) (hF : 4 ≤ R.frames) (hL : 200 ≤ R.locals) (hw : (st.map fun v => v.category).sum ≤ 8) (K : J p l e R s m args below meth c b D cy nL Z 0 0 G S n lv (.int (chS i) :: st)) : J p l e R s m args below meth c b D cy nL Z 0 0 G S pc lv (.int i :: .ref (cy 101) :: st) := jcT_I C n (As := [.int i]) (rest := st) rfl (ok_charAt hin) d hn wl wd_626 wd_627 wd_14 wd_628 ⟨rfl, rfl⟩ hd_chr ⟨by show 3 + 1 ≤ _; omega, by show 8 + (2 + 11) + 90 ≤ _; omega⟩ rfl hw ⟨Nat.zero_le _, Nat.zero_le _⟩ K
end TY
