/-! contracts over the memory of ids; ends; calls -/
theorem SK.same {b : Nat} {D : va_G} {cy : Nat → ClassId} {u U : State} (hv : u.vm = U.vm) (hh : U.heap = u.heap) (h : SK b D cy u) : SK b D cy U := by
  have ha : u.vm.Alike U.vm := by rw [hv]; exact Vm.Alike.refl _
  obtain ⟨h1, h2, h3, h4, ⟨c1, c2, c3, c4, c5, c6⟩, h6⟩ := h
  refine ⟨va_K.moved ha h1, fun w hw hn => ?_, va_AO.moved ha h3, va_AO.moved ha h4, ?_, va_AI.moved ha h6⟩
  · refine va_Nw.same ?_ hv (h2 w hw hn)
    cases w <;> first | rfl | (simp [isN] at hn)
  · rw [hh]
    exact ⟨c1.moved ha, c2.moved ha, c3.moved ha, c4.moved ha, vk_R.same hv.symm c5, c6.moved ha⟩
abbrev QC : Type := Nat → va_G → (Nat → ClassId) → Array Value → State → Outcome → State → Prop
def QI (Q : Int32 → Gm → St → Prop) : QC := fun b D cy => va_Qi (fun r (u : Gm × St) => Q r u.1 u.2) (fun u t => WU b D cy u.1 u.2 t) (fun q => b ≤ q)
def QL (Q : Int64 → Gm → St → Prop) : QC := fun b D cy => va_Ql (fun r (u : Gm × St) => Q r u.1 u.2) (fun u t => WU b D cy u.1 u.2 t) (fun q => b ≤ q)
def QV (Q : Gm → St → Prop) : QC := fun b D cy => va_Qv (fun (u : Gm × St) => Q u.1 u.2) (fun u t => WU b D cy u.1 u.2 t) (fun q => b ≤ q)
def QO (Q : Option Nat → Gm → St → Prop) : QC := fun b D cy => va_Qq (fun r (u : Gm × St) => ∃ o : Option Nat, r = o.map (fun i => b + i) ∧ Q o u.1 u.2) (fun u t => WU b D cy u.1 u.2 t) (fun q => b ≤ q)
def MT (y : MethodName) (cc : ByteArray) (nL : Nat) (rt : Option FieldType) (rm : Room) (mc ms : Nat) (av : Nat → List Value) (G : Gm) (S : St) (QQ : QC) : Prop :=
  ∀ (l : Launch) (b : Nat) (D : va_G) (cy : Nat → ClassId), Met l y (.code y cc nL rt :: gw) rm (va_Pc (av b) (WU b D cy G S)) (QQ b D cy) mc ms (fun q => b ≤ q)
theorem blind {av : List Value} {b : Nat} {D : va_G} {cy : Nat → ClassId} {G : Gm} {S : St} : FrameBlind (va_Pc av (WU b D cy G S)) := fun a U g mk h => ⟨h.1, h.2.1, SK.same (u := U) (U := U.calling g mk a) rfl rfl h.2.2⟩
theorem preS {s : State} {H : Heap} {av : List Value} {b : Nat} {D : va_G} {cy : Nat → ClassId} {G : Gm} {S : St} (sk : SK b D cy s) (w : Wd b D cy G S H) {locs : List Loc} (v : va_S (fun q => b ≤ q) s.heap H locs) : PreS s H (va_Pc av (WU b D cy G S)) av := ⟨blind, fun U hU hW => ⟨rfl, by rw [hU]; exact w, SK.go hW (by rw [hU]; exact v.2.1) sk⟩⟩
theorem MT.ofJ {y : MethodName} {cc : ByteArray} {nL : Nat} {rt : Option FieldType} {rm : Room} {mc ms : Nat} {av : Nat → List Value} {G : Gm} {S : St} {QQ : QC} (hy : plainName y.cls = true) (lv0 : Nat → List (Nat × Value)) (h0 : ∀ b, lv_args 0 (av b) = lv0 b) (h1 : ∀ b, (lg_sl (av b)).length ≤ nL)
    (h : ∀ (l : Launch) (b : Nat) (D : va_G) (cy : Nat → ClassId) (p : Program) (e : Env) (s : State) (m : MethodId) (below : List Frame) (meth : Method) (c : Code), CX p s m (av b).toArray meth c b D cy cc y.cls nL rt → s.heap.size + 0 ≤ b + G.2.2 → meth.name = y.name →
      J p l e rm s m (av b).toArray below meth c b D cy nL (MQ below (QQ b D cy) (av b).toArray s mc ms (fun q => b ≤ q)) 0 0 G S 0 (lv0 b) []) : MT y cc nL rt rm mc ms av G S QQ := by
  intro l b D cy
  refine Met.ofW (cc := cc) (maxL := nL) (ret := rt) hy rfl ?_
  intro p e s m args below meth c s₁ B hml hv
  obtain ⟨rfl, hw, hs⟩ := hv
  have hts := atoms_spec (ws := .code y cc nL rt :: gw) B.pre
  have hown : s.vm.findClass y.cls = some m.cls := findClass_of_methodNamed B.named
  have hl := lv_entry (av b) (n := nL) (h1 b)
  rw [h0 b] at hl
  rw [lg_entry_eq]
  have hz : s.heap.size = b + G.2.2 := hw.2.2.1
  exact h l b D cy p e s m below meth c ⟨B.exec, B.bytes, hown, fun w hw => hts w (List.mem_cons_of_mem _ hw), hml, B.returns, B.notSynchronized, hs, by omega⟩ (by omega) (name_of_methodNamed B.named B.method).1 s.heap [] _ hw va_S.rf hl
theorem MT.ofJF {y : MethodName} {cc : ByteArray} {nL : Nat} {rt : Option FieldType} {rm : Room} {mc ms : Nat} {av : Nat → List Value} {G : Gm} {S : St} {QQ : QC} (hy : plainFor y = true) (lv0 : Nat → List (Nat × Value)) (h0 : ∀ b, lv_args 0 (av b) = lv0 b) (h1 : ∀ b, (lg_sl (av b)).length ≤ nL)
    (h : ∀ (l : Launch) (b : Nat) (D : va_G) (cy : Nat → ClassId) (p : Program) (e : Env) (s : State) (m : MethodId) (below : List Frame) (meth : Method) (c : Code), CX p s m (av b).toArray meth c b D cy cc y.cls nL rt → s.heap.size + 0 ≤ b + G.2.2 → meth.name = y.name →
      J p l e rm s m (av b).toArray below meth c b D cy nL (MQ below (QQ b D cy) (av b).toArray s mc ms (fun q => b ≤ q)) 0 0 G S 0 (lv0 b) []) : MT y cc nL rt rm mc ms av G S QQ := by
  intro l b D cy
  refine va_MetF (cc := cc) (maxL := nL) (ret := rt) hy rfl ?_
  intro p e s m args below meth c s₁ B hml hv
  obtain ⟨rfl, hw, hs⟩ := hv
  have hts := atoms_spec (ws := .code y cc nL rt :: gw) B.pre
  have hown : s.vm.findClass y.cls = some m.cls := findClass_of_methodNamed B.named
  have hl := lv_entry (av b) (n := nL) (h1 b)
  rw [h0 b] at hl
  rw [lg_entry_eq]
  have hz : s.heap.size = b + G.2.2 := hw.2.2.1
  exact h l b D cy p e s m below meth c ⟨B.exec, B.bytes, hown, fun w hw => hts w (List.mem_cons_of_mem _ hw), hml, B.returns, B.notSynchronized, hs, by omega⟩ (by omega) (name_of_methodNamed B.named B.method).1 s.heap [] _ hw va_S.rf hl
section JC
variable {p : Program} {l : Launch} {e : Env} {R : Room} {s : State} {m : MethodId} {args : Array Value} {below : List Frame} {meth : Method} {c : Code}
variable {b : Nat} {D : va_G} {cy : Nat → ClassId} {cc : ByteArray} {own : String} {nL : Nat} {ret : Option FieldType} {Z : State → Prop} {cells slots : Nat} {G : Gm} {S : St} {pc : Nat} {lv : List (Nat × Value)} {st : List Value}
theorem jRetI (C : CX p s m args meth c b D cy cc own nL (some .int)) {Q : Int32 → Gm → St → Prop} {mc ms : Nat} {x : Int32} (d : decode cc pc = .ok (.ireturn, 1)) (h1 : cells ≤ mc) (h2 : slots ≤ ms) (q : Q x G S) : J p l e R s m args below meth c b D cy nL (MQ below (QI Q b D cy) args s mc ms (fun q => b ≤ q)) cells slots G S pc lv [.int x] := by
  obtain ⟨hx, hb, hown, hts, hml, hr, hlk, sk, hbs⟩ := C
  intro H locs ls w v h
  exact W.widen h1 h2 (W.iret hx hb hr (fun t ht hW => ⟨⟨x, (G, S), rfl, q, by rw [ht]; exact w, SK.go hW (by rw [ht]; exact v.2.1) sk⟩, v.F ht⟩) v.2.2 d hlk)
theorem jRetZ (C : CX p s m args meth c b D cy cc own nL (some .boolean)) {Q : Int32 → Gm → St → Prop} {mc ms : Nat} {x : Int32} (d : decode cc pc = .ok (.ireturn, 1)) (h1 : cells ≤ mc) (h2 : slots ≤ ms) (hz : x = 0 ∨ x = 1) (q : Q x G S) : J p l e R s m args below meth c b D cy nL (MQ below (QI Q b D cy) args s mc ms (fun q => b ≤ q)) cells slots G S pc lv [.int x] := by
  obtain ⟨hx, hb, hown, hts, hml, hr, hlk, sk, hbs⟩ := C
  intro H locs ls w v h
  exact W.widen h1 h2 (W.zret hx hb hr (nbZ hz) (fun t ht hW => ⟨⟨x, (G, S), rfl, q, by rw [ht]; exact w, SK.go hW (by rw [ht]; exact v.2.1) sk⟩, v.F ht⟩) v.2.2 d hlk)
theorem jRetL (C : CX p s m args meth c b D cy cc own nL (some .long)) {Q : Int64 → Gm → St → Prop} {mc ms : Nat} {x : Int64} (d : decode cc pc = .ok (.lreturn, 1)) (h1 : cells ≤ mc) (h2 : slots ≤ ms) (q : Q x G S) : J p l e R s m args below meth c b D cy nL (MQ below (QL Q b D cy) args s mc ms (fun q => b ≤ q)) cells slots G S pc lv [.long x] := by
  obtain ⟨hx, hb, hown, hts, hml, hr, hlk, sk, hbs⟩ := C
  intro H locs ls w v h
  exact W.widen h1 h2 (W.lret hx hb hr (fun t ht hW => ⟨⟨x, (G, S), rfl, q, by rw [ht]; exact w, SK.go hW (by rw [ht]; exact v.2.1) sk⟩, v.F ht⟩) v.2.2 d hlk)
theorem jRetV (C : CX p s m args meth c b D cy cc own nL none) {Q : Gm → St → Prop} {mc ms : Nat} (d : decode cc pc = .ok (.return_, 1)) (h1 : cells ≤ mc) (h2 : slots ≤ ms) (q : Q G S) : J p l e R s m args below meth c b D cy nL (MQ below (QV Q b D cy) args s mc ms (fun q => b ≤ q)) cells slots G S pc lv [] := by
  obtain ⟨hx, hb, hown, hts, hml, hr, hlk, sk, hbs⟩ := C
  intro H locs ls w v h
  exact W.widen h1 h2 (W.vret hx hb hr (fun t ht hW => ⟨⟨(G, S), rfl, q, by rw [ht]; exact w, SK.go hW (by rw [ht]; exact v.2.1) sk⟩, v.F ht⟩) v.2.2 d hlk)
theorem jRetO {cn : String} (C : CX p s m args meth c b D cy cc own nL (some (.object cn))) {Q : Option Nat → Gm → St → Prop} {mc ms : Nat} {r : Option Nat} (d : decode cc pc = .ok (.areturn, 1)) (h1 : cells ≤ mc) (h2 : slots ≤ ms) (q : Q r G S) : J p l e R s m args below meth c b D cy nL (MQ below (QO Q b D cy) args s mc ms (fun q => b ≤ q)) cells slots G S pc lv [rv b r] := by
  obtain ⟨hx, hb, hown, hts, hml, hr, hlk, sk, hbs⟩ := C
  intro H locs ls w v h
  exact W.widen h1 h2 (W.aret hx hb hr (Or.inl ⟨_, rfl⟩) (by cases r with | none => exact Or.inl rfl | some a => exact Or.inr ⟨_, rfl⟩) (fun t ht hW => ⟨⟨r.map (fun i => b + i), (G, S), rfl, ⟨r, rfl, q⟩, by rw [ht]; exact w, SK.go hW (by rw [ht]; exact v.2.1) sk⟩, v.F ht⟩) v.2.2 d hlk)
theorem jCallS_I (C : CX p s m args meth c b D cy cc own nL ret) (n : Nat) {y : MethodName} {idx k : Nat} {cc1 : ByteArray} {nL1 : Nat} {rt : Option FieldType} {rm : Room} {mc ms : Nat} {av : Nat → List Value} {rest : List Value} {Q : Int32 → Gm → St → Prop} (hM : MT y cc1 nL1 rt rm mc ms av G S (QI Q)) (d : decode cc pc = .ok (.invokestatic idx, 3)) (hn : pc + 3 = n) (wl : Cond.methodLink own idx y ∈ gw) (wt : Cond.static y ∈ gw) (wi : Cond.initialized y.cls ∈ gw) (wc : Cond.code y cc1 nL1 rt ∈ gw) (hrm : rm.cells = mc ∧ rm.slots = ms) (hd : y.cls ≠ "java/lang/invoke/MethodHandle" ∧ y.cls ≠ "java/lang/invoke/VarHandle" ∧ (parseMethodDescriptor y.desc).map (fun d => d.parameters.length) = some k) (hR : rm.frames + 1 ≤ R.frames ∧ 8 + (nL1 + 11) + rm.locals ≤ R.locals)  (hk : (av b).length = k) {st0 : List Value} (hst : st0 = (av b).reverse ++ rest) (hw : (rest.map fun v => v.category).sum ≤ 8) (hf : cells + mc ≤ R.cells ∧ slots + ms ≤ R.slots) (K : ∀ r G1 S1, Q r G1 S1 → J p l e R s m args below meth c b D cy nL Z (cells + mc) (slots + ms) G1 S1 n lv (.int r :: rest)) : J p l e R s m args below meth c b D cy nL Z cells slots G S pc lv st0 := by
  subst hn
  subst hst
  obtain ⟨hx, hb, hown, hts, hml, hr, hlk, sk, hbs⟩ := C
  intro H locs ls w v h
  have hM1 := hM l b D cy
  refine va_calli (va_runS (As := av b) (rest := rest) ⟨hx, hb, hml, hown, hts⟩ hM1 ⟨callB_of (ret := rt) k hts (gwG wc) rfl hrm.1 hrm.2 (hts _ wi) (hts _ wl) hd hR, hts _ wt⟩ (preS sk w v) rfl hk h.1 rfl (lv_room hw) d hf) v (fun _ _ q => q) (fun _ q => q) (fun r u t H1 locs1 ht hvm hq hB hz1 hk1 hS => ?_)
  exact K r u.1 u.2 hq H1 locs1 ls (by rw [← ht]; exact hB.1) hS h
theorem jCallS_L (C : CX p s m args meth c b D cy cc own nL ret) (n : Nat) {y : MethodName} {idx k : Nat} {cc1 : ByteArray} {nL1 : Nat} {rt : Option FieldType} {rm : Room} {mc ms : Nat} {av : Nat → List Value} {rest : List Value} {Q : Int64 → Gm → St → Prop} (hM : MT y cc1 nL1 rt rm mc ms av G S (QL Q)) (d : decode cc pc = .ok (.invokestatic idx, 3)) (hn : pc + 3 = n) (wl : Cond.methodLink own idx y ∈ gw) (wt : Cond.static y ∈ gw) (wi : Cond.initialized y.cls ∈ gw) (wc : Cond.code y cc1 nL1 rt ∈ gw) (hrm : rm.cells = mc ∧ rm.slots = ms) (hd : y.cls ≠ "java/lang/invoke/MethodHandle" ∧ y.cls ≠ "java/lang/invoke/VarHandle" ∧ (parseMethodDescriptor y.desc).map (fun d => d.parameters.length) = some k) (hR : rm.frames + 1 ≤ R.frames ∧ 8 + (nL1 + 11) + rm.locals ≤ R.locals)  (hk : (av b).length = k) {st0 : List Value} (hst : st0 = (av b).reverse ++ rest) (hw : (rest.map fun v => v.category).sum ≤ 8) (hf : cells + mc ≤ R.cells ∧ slots + ms ≤ R.slots) (K : ∀ r G1 S1, Q r G1 S1 → J p l e R s m args below meth c b D cy nL Z (cells + mc) (slots + ms) G1 S1 n lv (.long r :: rest)) : J p l e R s m args below meth c b D cy nL Z cells slots G S pc lv st0 := by
  subst hn
  subst hst
  obtain ⟨hx, hb, hown, hts, hml, hr, hlk, sk, hbs⟩ := C
  intro H locs ls w v h
  have hM1 := hM l b D cy
  refine va_calll (va_runS (As := av b) (rest := rest) ⟨hx, hb, hml, hown, hts⟩ hM1 ⟨callB_of (ret := rt) k hts (gwG wc) rfl hrm.1 hrm.2 (hts _ wi) (hts _ wl) hd hR, hts _ wt⟩ (preS sk w v) rfl hk h.1 rfl (lv_room hw) d hf) v (fun _ _ q => q) (fun _ q => q) (fun r u t H1 locs1 ht hvm hq hB hz1 hk1 hS => ?_)
  exact K r u.1 u.2 hq H1 locs1 ls (by rw [← ht]; exact hB.1) hS h
theorem jCallS_V (C : CX p s m args meth c b D cy cc own nL ret) (n : Nat) {y : MethodName} {idx k : Nat} {cc1 : ByteArray} {nL1 : Nat} {rt : Option FieldType} {rm : Room} {mc ms : Nat} {av : Nat → List Value} {rest : List Value} {Q : Gm → St → Prop} (hM : MT y cc1 nL1 rt rm mc ms av G S (QV Q)) (d : decode cc pc = .ok (.invokestatic idx, 3)) (hn : pc + 3 = n) (wl : Cond.methodLink own idx y ∈ gw) (wt : Cond.static y ∈ gw) (wi : Cond.initialized y.cls ∈ gw) (wc : Cond.code y cc1 nL1 rt ∈ gw) (hrm : rm.cells = mc ∧ rm.slots = ms) (hd : y.cls ≠ "java/lang/invoke/MethodHandle" ∧ y.cls ≠ "java/lang/invoke/VarHandle" ∧ (parseMethodDescriptor y.desc).map (fun d => d.parameters.length) = some k) (hR : rm.frames + 1 ≤ R.frames ∧ 8 + (nL1 + 11) + rm.locals ≤ R.locals)  (hk : (av b).length = k) {st0 : List Value} (hst : st0 = (av b).reverse ++ rest) (hw : (rest.map fun v => v.category).sum ≤ 8) (hf : cells + mc ≤ R.cells ∧ slots + ms ≤ R.slots) (K : ∀ G1 S1, Q G1 S1 → J p l e R s m args below meth c b D cy nL Z (cells + mc) (slots + ms) G1 S1 n lv (rest)) : J p l e R s m args below meth c b D cy nL Z cells slots G S pc lv st0 := by
  subst hn
  subst hst
  obtain ⟨hx, hb, hown, hts, hml, hr, hlk, sk, hbs⟩ := C
  intro H locs ls w v h
  have hM1 := hM l b D cy
  refine va_callv (va_runS (As := av b) (rest := rest) ⟨hx, hb, hml, hown, hts⟩ hM1 ⟨callB_of (ret := rt) k hts (gwG wc) rfl hrm.1 hrm.2 (hts _ wi) (hts _ wl) hd hR, hts _ wt⟩ (preS sk w v) rfl hk h.1 rfl (lv_room hw) d hf) v (fun _ _ q => q) (fun _ q => q) (fun u t H1 locs1 ht hvm hq hB hz1 hk1 hS => ?_)
  exact K u.1 u.2 hq H1 locs1 ls (by rw [← ht]; exact hB.1) hS h
theorem jCallS_O (C : CX p s m args meth c b D cy cc own nL ret) (n : Nat) {y : MethodName} {idx k : Nat} {cc1 : ByteArray} {nL1 : Nat} {rt : Option FieldType} {rm : Room} {mc ms : Nat} {av : Nat → List Value} {rest : List Value} {Q : Option Nat → Gm → St → Prop} (hM : MT y cc1 nL1 rt rm mc ms av G S (QO Q)) (d : decode cc pc = .ok (.invokestatic idx, 3)) (hn : pc + 3 = n) (wl : Cond.methodLink own idx y ∈ gw) (wt : Cond.static y ∈ gw) (wi : Cond.initialized y.cls ∈ gw) (wc : Cond.code y cc1 nL1 rt ∈ gw) (hrm : rm.cells = mc ∧ rm.slots = ms) (hd : y.cls ≠ "java/lang/invoke/MethodHandle" ∧ y.cls ≠ "java/lang/invoke/VarHandle" ∧ (parseMethodDescriptor y.desc).map (fun d => d.parameters.length) = some k) (hR : rm.frames + 1 ≤ R.frames ∧ 8 + (nL1 + 11) + rm.locals ≤ R.locals)  (hk : (av b).length = k) {st0 : List Value} (hst : st0 = (av b).reverse ++ rest) (hw : (rest.map fun v => v.category).sum ≤ 8) (hf : cells + mc ≤ R.cells ∧ slots + ms ≤ R.slots) (K : ∀ r G1 S1, Q r G1 S1 → J p l e R s m args below meth c b D cy nL Z (cells + mc) (slots + ms) G1 S1 n lv (rv b r :: rest)) : J p l e R s m args below meth c b D cy nL Z cells slots G S pc lv st0 := by
  subst hn
  subst hst
  obtain ⟨hx, hb, hown, hts, hml, hr, hlk, sk, hbs⟩ := C
  intro H locs ls w v h
  have hM1 := hM l b D cy
  refine va_callq (va_runS (As := av b) (rest := rest) ⟨hx, hb, hml, hown, hts⟩ hM1 ⟨callB_of (ret := rt) k hts (gwG wc) rfl hrm.1 hrm.2 (hts _ wi) (hts _ wl) hd hR, hts _ wt⟩ (preS sk w v) rfl hk h.1 rfl (lv_room hw) d hf) v (fun _ _ q => q) (fun _ q => q) (fun r u t H1 locs1 ht hvm hq hB hz1 hk1 hS => ?_)
  obtain ⟨o1, rfl, hq⟩ := hq
  exact K o1 u.1 u.2 hq H1 locs1 ls (by rw [← ht]; exact hB.1) hS h
theorem jCallSN_I (C : CX p s m args meth c b D cy cc own nL ret) (n : Nat) {y : MethodName} {idx k : Nat} {cc1 : ByteArray} {nL1 : Nat} {rt : Option FieldType} {rm : Room} {mc ms : Nat} {av : Nat → List Value} {rest : List Value} {Q : Int32 → Gm → St → Prop} (hM : MT y cc1 nL1 rt rm mc ms av G S (QI Q)) (d : decode cc pc = .ok (.invokestatic idx, 3)) (hn : pc + 3 = n) {host : String} (wl : Cond.methodLinkNest own idx y host ∈ tables_1) (wt : Cond.static y ∈ gw) (wi : Cond.initialized y.cls ∈ gw) (wc : Cond.code y cc1 nL1 rt ∈ gw) (hrm : rm.cells = mc ∧ rm.slots = ms) (hd : y.cls ≠ "java/lang/invoke/MethodHandle" ∧ y.cls ≠ "java/lang/invoke/VarHandle" ∧ (parseMethodDescriptor y.desc).map (fun d => d.parameters.length) = some k) (hR : rm.frames + 1 ≤ R.frames ∧ 8 + (nL1 + 11) + rm.locals ≤ R.locals)  (hk : (av b).length = k) {st0 : List Value} (hst : st0 = (av b).reverse ++ rest) (hw : (rest.map fun v => v.category).sum ≤ 8) (hf : cells + mc ≤ R.cells ∧ slots + ms ≤ R.slots) (K : ∀ r G1 S1, Q r G1 S1 → J p l e R s m args below meth c b D cy nL Z (cells + mc) (slots + ms) G1 S1 n lv (.int r :: rest)) : J p l e R s m args below meth c b D cy nL Z cells slots G S pc lv st0 := by
  subst hn
  subst hst
  obtain ⟨hx, hb, hown, hts, hml, hr, hlk, sk, hbs⟩ := C
  intro H locs ls w v h
  have hM1 := hM l b D cy
  refine va_calli (va_runSN (As := av b) (rest := rest) ⟨hx, hb, hml, hown, hts⟩ hM1 ⟨va_cnB (ret := rt) k hts (gwG wc) rfl hrm.1 hrm.2 (sk.2.1 _ wl rfl) (hts _ wi) hd hR, hts _ wt, trivial⟩ (preS sk w v) rfl hk h.1 rfl (lv_room hw) d hf) v (fun _ _ q => q) (fun _ q => q) (fun r u t H1 locs1 ht hvm hq hB hz1 hk1 hS => ?_)
  exact K r u.1 u.2 hq H1 locs1 ls (by rw [← ht]; exact hB.1) hS h
theorem jCallSN_L (C : CX p s m args meth c b D cy cc own nL ret) (n : Nat) {y : MethodName} {idx k : Nat} {cc1 : ByteArray} {nL1 : Nat} {rt : Option FieldType} {rm : Room} {mc ms : Nat} {av : Nat → List Value} {rest : List Value} {Q : Int64 → Gm → St → Prop} (hM : MT y cc1 nL1 rt rm mc ms av G S (QL Q)) (d : decode cc pc = .ok (.invokestatic idx, 3)) (hn : pc + 3 = n) {host : String} (wl : Cond.methodLinkNest own idx y host ∈ tables_1) (wt : Cond.static y ∈ gw) (wi : Cond.initialized y.cls ∈ gw) (wc : Cond.code y cc1 nL1 rt ∈ gw) (hrm : rm.cells = mc ∧ rm.slots = ms) (hd : y.cls ≠ "java/lang/invoke/MethodHandle" ∧ y.cls ≠ "java/lang/invoke/VarHandle" ∧ (parseMethodDescriptor y.desc).map (fun d => d.parameters.length) = some k) (hR : rm.frames + 1 ≤ R.frames ∧ 8 + (nL1 + 11) + rm.locals ≤ R.locals)  (hk : (av b).length = k) {st0 : List Value} (hst : st0 = (av b).reverse ++ rest) (hw : (rest.map fun v => v.category).sum ≤ 8) (hf : cells + mc ≤ R.cells ∧ slots + ms ≤ R.slots) (K : ∀ r G1 S1, Q r G1 S1 → J p l e R s m args below meth c b D cy nL Z (cells + mc) (slots + ms) G1 S1 n lv (.long r :: rest)) : J p l e R s m args below meth c b D cy nL Z cells slots G S pc lv st0 := by
  subst hn
  subst hst
  obtain ⟨hx, hb, hown, hts, hml, hr, hlk, sk, hbs⟩ := C
  intro H locs ls w v h
  have hM1 := hM l b D cy
  refine va_calll (va_runSN (As := av b) (rest := rest) ⟨hx, hb, hml, hown, hts⟩ hM1 ⟨va_cnB (ret := rt) k hts (gwG wc) rfl hrm.1 hrm.2 (sk.2.1 _ wl rfl) (hts _ wi) hd hR, hts _ wt, trivial⟩ (preS sk w v) rfl hk h.1 rfl (lv_room hw) d hf) v (fun _ _ q => q) (fun _ q => q) (fun r u t H1 locs1 ht hvm hq hB hz1 hk1 hS => ?_)
  exact K r u.1 u.2 hq H1 locs1 ls (by rw [← ht]; exact hB.1) hS h
theorem jCallSN_V (C : CX p s m args meth c b D cy cc own nL ret) (n : Nat) {y : MethodName} {idx k : Nat} {cc1 : ByteArray} {nL1 : Nat} {rt : Option FieldType} {rm : Room} {mc ms : Nat} {av : Nat → List Value} {rest : List Value} {Q : Gm → St → Prop} (hM : MT y cc1 nL1 rt rm mc ms av G S (QV Q)) (d : decode cc pc = .ok (.invokestatic idx, 3)) (hn : pc + 3 = n) {host : String} (wl : Cond.methodLinkNest own idx y host ∈ tables_1) (wt : Cond.static y ∈ gw) (wi : Cond.initialized y.cls ∈ gw) (wc : Cond.code y cc1 nL1 rt ∈ gw) (hrm : rm.cells = mc ∧ rm.slots = ms) (hd : y.cls ≠ "java/lang/invoke/MethodHandle" ∧ y.cls ≠ "java/lang/invoke/VarHandle" ∧ (parseMethodDescriptor y.desc).map (fun d => d.parameters.length) = some k) (hR : rm.frames + 1 ≤ R.frames ∧ 8 + (nL1 + 11) + rm.locals ≤ R.locals)  (hk : (av b).length = k) {st0 : List Value} (hst : st0 = (av b).reverse ++ rest) (hw : (rest.map fun v => v.category).sum ≤ 8) (hf : cells + mc ≤ R.cells ∧ slots + ms ≤ R.slots) (K : ∀ G1 S1, Q G1 S1 → J p l e R s m args below meth c b D cy nL Z (cells + mc) (slots + ms) G1 S1 n lv (rest)) : J p l e R s m args below meth c b D cy nL Z cells slots G S pc lv st0 := by
  subst hn
  subst hst
  obtain ⟨hx, hb, hown, hts, hml, hr, hlk, sk, hbs⟩ := C
  intro H locs ls w v h
  have hM1 := hM l b D cy
  refine va_callv (va_runSN (As := av b) (rest := rest) ⟨hx, hb, hml, hown, hts⟩ hM1 ⟨va_cnB (ret := rt) k hts (gwG wc) rfl hrm.1 hrm.2 (sk.2.1 _ wl rfl) (hts _ wi) hd hR, hts _ wt, trivial⟩ (preS sk w v) rfl hk h.1 rfl (lv_room hw) d hf) v (fun _ _ q => q) (fun _ q => q) (fun u t H1 locs1 ht hvm hq hB hz1 hk1 hS => ?_)
  exact K u.1 u.2 hq H1 locs1 ls (by rw [← ht]; exact hB.1) hS h
theorem jCallV_I (C : CX p s m args meth c b D cy cc own nL ret) (n : Nat) {y : MethodName} {idx k : Nat} {cc1 : ByteArray} {nL1 : Nat} {rt : Option FieldType} {rm : Room} {mc ms : Nat} {av : Nat → List Value} {rest : List Value} {Q : Int32 → Gm → St → Prop} (hM : MT y cc1 nL1 rt rm mc ms av G S (QI Q)) (d : decode cc pc = .ok (.invokevirtual idx, 3)) (hn : pc + 3 = n) (wl : Cond.methodLink own idx y ∈ gw) (wi2 : Cond.instanceMethod y ∈ gw) (wse : Cond.selects y.cls y y ∈ gw) (wi : Cond.initialized y.cls ∈ gw) (wc : Cond.code y cc1 nL1 rt ∈ gw) (hrm : rm.cells = mc ∧ rm.slots = ms) (hd : y.cls ≠ "java/lang/invoke/MethodHandle" ∧ y.cls ≠ "java/lang/invoke/VarHandle" ∧ (parseMethodDescriptor y.desc).map (fun d => d.parameters.length) = some k) (hR : rm.frames + 1 ≤ R.frames ∧ 8 + (nL1 + 11) + rm.locals ≤ R.locals) {ci i N : Nat} {T : u_T} {ty : Nat → FieldType} (o : ok G ci i) (kc : KC ci y.cls T N ty) (h11 : ci < 11) {As : List Value} (hav : av b = .ref (b + i) :: As) (hk : As.length = k) {st0 : List Value} (hst : st0 = As.reverse ++ .ref (b + i) :: rest) (hw : (rest.map fun v => v.category).sum ≤ 8) (hf : cells + mc ≤ R.cells ∧ slots + ms ≤ R.slots) (K : ∀ r G1 S1, Q r G1 S1 → J p l e R s m args below meth c b D cy nL Z (cells + mc) (slots + ms) G1 S1 n lv (.int r :: rest)) : J p l e R s m args below meth c b D cy nL Z cells slots G S pc lv st0 := by
  subst hn
  subst hst
  obtain ⟨hx, hb, hown, hts, hml, hr, hlk, sk, hbs⟩ := C
  intro H locs ls w v h
  have hM1 := hM l b D cy
  have hg := pl_get (b := b) (cy := cy) (S := S) o.1
  rw [o.2] at hg
  simp only [ce, h11, if_true] at hg
  have hp := preS (av := av b) sk w v
  rw [hav] at hp hM1
  refine va_calli (va_runV (As := As) (rest := rest) (C := y.cls) ⟨hx, hb, hml, hown, hts⟩ hM1 ⟨callB_of (ret := rt) k hts (gwG wc) rfl hrm.1 hrm.2 (hts _ wi) (hts _ wl) hd hR, hts _ wi2, hts _ wse⟩ ⟨hp.1, va_recv sk.1 w.1 kc.1 hg, hp.2⟩ rfl hk h.1 rfl (lv_room hw) d hf) v (fun _ _ q => q) (fun _ q => q) (fun r u t H1 locs1 ht hvm hq hB hz1 hk1 hS => ?_)
  exact K r u.1 u.2 hq H1 locs1 ls (by rw [← ht]; exact hB.1) hS h
theorem jCallV_L (C : CX p s m args meth c b D cy cc own nL ret) (n : Nat) {y : MethodName} {idx k : Nat} {cc1 : ByteArray} {nL1 : Nat} {rt : Option FieldType} {rm : Room} {mc ms : Nat} {av : Nat → List Value} {rest : List Value} {Q : Int64 → Gm → St → Prop} (hM : MT y cc1 nL1 rt rm mc ms av G S (QL Q)) (d : decode cc pc = .ok (.invokevirtual idx, 3)) (hn : pc + 3 = n) (wl : Cond.methodLink own idx y ∈ gw) (wi2 : Cond.instanceMethod y ∈ gw) (wse : Cond.selects y.cls y y ∈ gw) (wi : Cond.initialized y.cls ∈ gw) (wc : Cond.code y cc1 nL1 rt ∈ gw) (hrm : rm.cells = mc ∧ rm.slots = ms) (hd : y.cls ≠ "java/lang/invoke/MethodHandle" ∧ y.cls ≠ "java/lang/invoke/VarHandle" ∧ (parseMethodDescriptor y.desc).map (fun d => d.parameters.length) = some k) (hR : rm.frames + 1 ≤ R.frames ∧ 8 + (nL1 + 11) + rm.locals ≤ R.locals) {ci i N : Nat} {T : u_T} {ty : Nat → FieldType} (o : ok G ci i) (kc : KC ci y.cls T N ty) (h11 : ci < 11) {As : List Value} (hav : av b = .ref (b + i) :: As) (hk : As.length = k) {st0 : List Value} (hst : st0 = As.reverse ++ .ref (b + i) :: rest) (hw : (rest.map fun v => v.category).sum ≤ 8) (hf : cells + mc ≤ R.cells ∧ slots + ms ≤ R.slots) (K : ∀ r G1 S1, Q r G1 S1 → J p l e R s m args below meth c b D cy nL Z (cells + mc) (slots + ms) G1 S1 n lv (.long r :: rest)) : J p l e R s m args below meth c b D cy nL Z cells slots G S pc lv st0 := by
  subst hn
  subst hst
  obtain ⟨hx, hb, hown, hts, hml, hr, hlk, sk, hbs⟩ := C
  intro H locs ls w v h
  have hM1 := hM l b D cy
  have hg := pl_get (b := b) (cy := cy) (S := S) o.1
  rw [o.2] at hg
  simp only [ce, h11, if_true] at hg
  have hp := preS (av := av b) sk w v
  rw [hav] at hp hM1
  refine va_calll (va_runV (As := As) (rest := rest) (C := y.cls) ⟨hx, hb, hml, hown, hts⟩ hM1 ⟨callB_of (ret := rt) k hts (gwG wc) rfl hrm.1 hrm.2 (hts _ wi) (hts _ wl) hd hR, hts _ wi2, hts _ wse⟩ ⟨hp.1, va_recv sk.1 w.1 kc.1 hg, hp.2⟩ rfl hk h.1 rfl (lv_room hw) d hf) v (fun _ _ q => q) (fun _ q => q) (fun r u t H1 locs1 ht hvm hq hB hz1 hk1 hS => ?_)
  exact K r u.1 u.2 hq H1 locs1 ls (by rw [← ht]; exact hB.1) hS h
theorem jCallV_V (C : CX p s m args meth c b D cy cc own nL ret) (n : Nat) {y : MethodName} {idx k : Nat} {cc1 : ByteArray} {nL1 : Nat} {rt : Option FieldType} {rm : Room} {mc ms : Nat} {av : Nat → List Value} {rest : List Value} {Q : Gm → St → Prop} (hM : MT y cc1 nL1 rt rm mc ms av G S (QV Q)) (d : decode cc pc = .ok (.invokevirtual idx, 3)) (hn : pc + 3 = n) (wl : Cond.methodLink own idx y ∈ gw) (wi2 : Cond.instanceMethod y ∈ gw) (wse : Cond.selects y.cls y y ∈ gw) (wi : Cond.initialized y.cls ∈ gw) (wc : Cond.code y cc1 nL1 rt ∈ gw) (hrm : rm.cells = mc ∧ rm.slots = ms) (hd : y.cls ≠ "java/lang/invoke/MethodHandle" ∧ y.cls ≠ "java/lang/invoke/VarHandle" ∧ (parseMethodDescriptor y.desc).map (fun d => d.parameters.length) = some k) (hR : rm.frames + 1 ≤ R.frames ∧ 8 + (nL1 + 11) + rm.locals ≤ R.locals) {ci i N : Nat} {T : u_T} {ty : Nat → FieldType} (o : ok G ci i) (kc : KC ci y.cls T N ty) (h11 : ci < 11) {As : List Value} (hav : av b = .ref (b + i) :: As) (hk : As.length = k) {st0 : List Value} (hst : st0 = As.reverse ++ .ref (b + i) :: rest) (hw : (rest.map fun v => v.category).sum ≤ 8) (hf : cells + mc ≤ R.cells ∧ slots + ms ≤ R.slots) (K : ∀ G1 S1, Q G1 S1 → J p l e R s m args below meth c b D cy nL Z (cells + mc) (slots + ms) G1 S1 n lv (rest)) : J p l e R s m args below meth c b D cy nL Z cells slots G S pc lv st0 := by
  subst hn
  subst hst
  obtain ⟨hx, hb, hown, hts, hml, hr, hlk, sk, hbs⟩ := C
  intro H locs ls w v h
  have hM1 := hM l b D cy
  have hg := pl_get (b := b) (cy := cy) (S := S) o.1
  rw [o.2] at hg
  simp only [ce, h11, if_true] at hg
  have hp := preS (av := av b) sk w v
  rw [hav] at hp hM1
  refine va_callv (va_runV (As := As) (rest := rest) (C := y.cls) ⟨hx, hb, hml, hown, hts⟩ hM1 ⟨callB_of (ret := rt) k hts (gwG wc) rfl hrm.1 hrm.2 (hts _ wi) (hts _ wl) hd hR, hts _ wi2, hts _ wse⟩ ⟨hp.1, va_recv sk.1 w.1 kc.1 hg, hp.2⟩ rfl hk h.1 rfl (lv_room hw) d hf) v (fun _ _ q => q) (fun _ q => q) (fun u t H1 locs1 ht hvm hq hB hz1 hk1 hS => ?_)
  exact K u.1 u.2 hq H1 locs1 ls (by rw [← ht]; exact hB.1) hS h
theorem jCallV_O (C : CX p s m args meth c b D cy cc own nL ret) (n : Nat) {y : MethodName} {idx k : Nat} {cc1 : ByteArray} {nL1 : Nat} {rt : Option FieldType} {rm : Room} {mc ms : Nat} {av : Nat → List Value} {rest : List Value} {Q : Option Nat → Gm → St → Prop} (hM : MT y cc1 nL1 rt rm mc ms av G S (QO Q)) (d : decode cc pc = .ok (.invokevirtual idx, 3)) (hn : pc + 3 = n) (wl : Cond.methodLink own idx y ∈ gw) (wi2 : Cond.instanceMethod y ∈ gw) (wse : Cond.selects y.cls y y ∈ gw) (wi : Cond.initialized y.cls ∈ gw) (wc : Cond.code y cc1 nL1 rt ∈ gw) (hrm : rm.cells = mc ∧ rm.slots = ms) (hd : y.cls ≠ "java/lang/invoke/MethodHandle" ∧ y.cls ≠ "java/lang/invoke/VarHandle" ∧ (parseMethodDescriptor y.desc).map (fun d => d.parameters.length) = some k) (hR : rm.frames + 1 ≤ R.frames ∧ 8 + (nL1 + 11) + rm.locals ≤ R.locals) {ci i N : Nat} {T : u_T} {ty : Nat → FieldType} (o : ok G ci i) (kc : KC ci y.cls T N ty) (h11 : ci < 11) {As : List Value} (hav : av b = .ref (b + i) :: As) (hk : As.length = k) {st0 : List Value} (hst : st0 = As.reverse ++ .ref (b + i) :: rest) (hw : (rest.map fun v => v.category).sum ≤ 8) (hf : cells + mc ≤ R.cells ∧ slots + ms ≤ R.slots) (K : ∀ r G1 S1, Q r G1 S1 → J p l e R s m args below meth c b D cy nL Z (cells + mc) (slots + ms) G1 S1 n lv (rv b r :: rest)) : J p l e R s m args below meth c b D cy nL Z cells slots G S pc lv st0 := by
  subst hn
  subst hst
  obtain ⟨hx, hb, hown, hts, hml, hr, hlk, sk, hbs⟩ := C
  intro H locs ls w v h
  have hM1 := hM l b D cy
  have hg := pl_get (b := b) (cy := cy) (S := S) o.1
  rw [o.2] at hg
  simp only [ce, h11, if_true] at hg
  have hp := preS (av := av b) sk w v
  rw [hav] at hp hM1
  refine va_callq (va_runV (As := As) (rest := rest) (C := y.cls) ⟨hx, hb, hml, hown, hts⟩ hM1 ⟨callB_of (ret := rt) k hts (gwG wc) rfl hrm.1 hrm.2 (hts _ wi) (hts _ wl) hd hR, hts _ wi2, hts _ wse⟩ ⟨hp.1, va_recv sk.1 w.1 kc.1 hg, hp.2⟩ rfl hk h.1 rfl (lv_room hw) d hf) v (fun _ _ q => q) (fun _ q => q) (fun r u t H1 locs1 ht hvm hq hB hz1 hk1 hS => ?_)
  obtain ⟨o1, rfl, hq⟩ := hq
  exact K o1 u.1 u.2 hq H1 locs1 ls (by rw [← ht]; exact hB.1) hS h
theorem jCallVN_I (C : CX p s m args meth c b D cy cc own nL ret) (n : Nat) {y : MethodName} {idx k : Nat} {cc1 : ByteArray} {nL1 : Nat} {rt : Option FieldType} {rm : Room} {mc ms : Nat} {av : Nat → List Value} {rest : List Value} {Q : Int32 → Gm → St → Prop} (hM : MT y cc1 nL1 rt rm mc ms av G S (QI Q)) (d : decode cc pc = .ok (.invokevirtual idx, 3)) (hn : pc + 3 = n) {host : String} (wl : Cond.methodLinkNest own idx y host ∈ tables_1) (wi2 : Cond.instanceMethod y ∈ gw) (wse : Cond.selects y.cls y y ∈ gw) (wi : Cond.initialized y.cls ∈ gw) (wc : Cond.code y cc1 nL1 rt ∈ gw) (hrm : rm.cells = mc ∧ rm.slots = ms) (hd : y.cls ≠ "java/lang/invoke/MethodHandle" ∧ y.cls ≠ "java/lang/invoke/VarHandle" ∧ (parseMethodDescriptor y.desc).map (fun d => d.parameters.length) = some k) (hR : rm.frames + 1 ≤ R.frames ∧ 8 + (nL1 + 11) + rm.locals ≤ R.locals) {ci i N : Nat} {T : u_T} {ty : Nat → FieldType} (o : ok G ci i) (kc : KC ci y.cls T N ty) (h11 : ci < 11) {As : List Value} (hav : av b = .ref (b + i) :: As) (hk : As.length = k) {st0 : List Value} (hst : st0 = As.reverse ++ .ref (b + i) :: rest) (hw : (rest.map fun v => v.category).sum ≤ 8) (hf : cells + mc ≤ R.cells ∧ slots + ms ≤ R.slots) (K : ∀ r G1 S1, Q r G1 S1 → J p l e R s m args below meth c b D cy nL Z (cells + mc) (slots + ms) G1 S1 n lv (.int r :: rest)) : J p l e R s m args below meth c b D cy nL Z cells slots G S pc lv st0 := by
  subst hn
  subst hst
  obtain ⟨hx, hb, hown, hts, hml, hr, hlk, sk, hbs⟩ := C
  intro H locs ls w v h
  have hM1 := hM l b D cy
  have hg := pl_get (b := b) (cy := cy) (S := S) o.1
  rw [o.2] at hg
  simp only [ce, h11, if_true] at hg
  have hp := preS (av := av b) sk w v
  rw [hav] at hp hM1
  refine va_calli (va_runVN (As := As) (rest := rest) (C := y.cls) ⟨hx, hb, hml, hown, hts⟩ hM1 ⟨va_cnB (ret := rt) k hts (gwG wc) rfl hrm.1 hrm.2 (sk.2.1 _ wl rfl) (hts _ wi) hd hR, hts _ wi2, hts _ wse⟩ ⟨hp.1, va_recv sk.1 w.1 kc.1 hg, hp.2⟩ rfl hk h.1 rfl (lv_room hw) d hf) v (fun _ _ q => q) (fun _ q => q) (fun r u t H1 locs1 ht hvm hq hB hz1 hk1 hS => ?_)
  exact K r u.1 u.2 hq H1 locs1 ls (by rw [← ht]; exact hB.1) hS h
theorem jCallVN_L (C : CX p s m args meth c b D cy cc own nL ret) (n : Nat) {y : MethodName} {idx k : Nat} {cc1 : ByteArray} {nL1 : Nat} {rt : Option FieldType} {rm : Room} {mc ms : Nat} {av : Nat → List Value} {rest : List Value} {Q : Int64 → Gm → St → Prop} (hM : MT y cc1 nL1 rt rm mc ms av G S (QL Q)) (d : decode cc pc = .ok (.invokevirtual idx, 3)) (hn : pc + 3 = n) {host : String} (wl : Cond.methodLinkNest own idx y host ∈ tables_1) (wi2 : Cond.instanceMethod y ∈ gw) (wse : Cond.selects y.cls y y ∈ gw) (wi : Cond.initialized y.cls ∈ gw) (wc : Cond.code y cc1 nL1 rt ∈ gw) (hrm : rm.cells = mc ∧ rm.slots = ms) (hd : y.cls ≠ "java/lang/invoke/MethodHandle" ∧ y.cls ≠ "java/lang/invoke/VarHandle" ∧ (parseMethodDescriptor y.desc).map (fun d => d.parameters.length) = some k) (hR : rm.frames + 1 ≤ R.frames ∧ 8 + (nL1 + 11) + rm.locals ≤ R.locals) {ci i N : Nat} {T : u_T} {ty : Nat → FieldType} (o : ok G ci i) (kc : KC ci y.cls T N ty) (h11 : ci < 11) {As : List Value} (hav : av b = .ref (b + i) :: As) (hk : As.length = k) {st0 : List Value} (hst : st0 = As.reverse ++ .ref (b + i) :: rest) (hw : (rest.map fun v => v.category).sum ≤ 8) (hf : cells + mc ≤ R.cells ∧ slots + ms ≤ R.slots) (K : ∀ r G1 S1, Q r G1 S1 → J p l e R s m args below meth c b D cy nL Z (cells + mc) (slots + ms) G1 S1 n lv (.long r :: rest)) : J p l e R s m args below meth c b D cy nL Z cells slots G S pc lv st0 := by
  subst hn
  subst hst
  obtain ⟨hx, hb, hown, hts, hml, hr, hlk, sk, hbs⟩ := C
  intro H locs ls w v h
  have hM1 := hM l b D cy
  have hg := pl_get (b := b) (cy := cy) (S := S) o.1
  rw [o.2] at hg
  simp only [ce, h11, if_true] at hg
  have hp := preS (av := av b) sk w v
  rw [hav] at hp hM1
  refine va_calll (va_runVN (As := As) (rest := rest) (C := y.cls) ⟨hx, hb, hml, hown, hts⟩ hM1 ⟨va_cnB (ret := rt) k hts (gwG wc) rfl hrm.1 hrm.2 (sk.2.1 _ wl rfl) (hts _ wi) hd hR, hts _ wi2, hts _ wse⟩ ⟨hp.1, va_recv sk.1 w.1 kc.1 hg, hp.2⟩ rfl hk h.1 rfl (lv_room hw) d hf) v (fun _ _ q => q) (fun _ q => q) (fun r u t H1 locs1 ht hvm hq hB hz1 hk1 hS => ?_)
  exact K r u.1 u.2 hq H1 locs1 ls (by rw [← ht]; exact hB.1) hS h
theorem jCallVN_V (C : CX p s m args meth c b D cy cc own nL ret) (n : Nat) {y : MethodName} {idx k : Nat} {cc1 : ByteArray} {nL1 : Nat} {rt : Option FieldType} {rm : Room} {mc ms : Nat} {av : Nat → List Value} {rest : List Value} {Q : Gm → St → Prop} (hM : MT y cc1 nL1 rt rm mc ms av G S (QV Q)) (d : decode cc pc = .ok (.invokevirtual idx, 3)) (hn : pc + 3 = n) {host : String} (wl : Cond.methodLinkNest own idx y host ∈ tables_1) (wi2 : Cond.instanceMethod y ∈ gw) (wse : Cond.selects y.cls y y ∈ gw) (wi : Cond.initialized y.cls ∈ gw) (wc : Cond.code y cc1 nL1 rt ∈ gw) (hrm : rm.cells = mc ∧ rm.slots = ms) (hd : y.cls ≠ "java/lang/invoke/MethodHandle" ∧ y.cls ≠ "java/lang/invoke/VarHandle" ∧ (parseMethodDescriptor y.desc).map (fun d => d.parameters.length) = some k) (hR : rm.frames + 1 ≤ R.frames ∧ 8 + (nL1 + 11) + rm.locals ≤ R.locals) {ci i N : Nat} {T : u_T} {ty : Nat → FieldType} (o : ok G ci i) (kc : KC ci y.cls T N ty) (h11 : ci < 11) {As : List Value} (hav : av b = .ref (b + i) :: As) (hk : As.length = k) {st0 : List Value} (hst : st0 = As.reverse ++ .ref (b + i) :: rest) (hw : (rest.map fun v => v.category).sum ≤ 8) (hf : cells + mc ≤ R.cells ∧ slots + ms ≤ R.slots) (K : ∀ G1 S1, Q G1 S1 → J p l e R s m args below meth c b D cy nL Z (cells + mc) (slots + ms) G1 S1 n lv (rest)) : J p l e R s m args below meth c b D cy nL Z cells slots G S pc lv st0 := by
  subst hn
  subst hst
  obtain ⟨hx, hb, hown, hts, hml, hr, hlk, sk, hbs⟩ := C
  intro H locs ls w v h
  have hM1 := hM l b D cy
  have hg := pl_get (b := b) (cy := cy) (S := S) o.1
  rw [o.2] at hg
  simp only [ce, h11, if_true] at hg
  have hp := preS (av := av b) sk w v
  rw [hav] at hp hM1
  refine va_callv (va_runVN (As := As) (rest := rest) (C := y.cls) ⟨hx, hb, hml, hown, hts⟩ hM1 ⟨va_cnB (ret := rt) k hts (gwG wc) rfl hrm.1 hrm.2 (sk.2.1 _ wl rfl) (hts _ wi) hd hR, hts _ wi2, hts _ wse⟩ ⟨hp.1, va_recv sk.1 w.1 kc.1 hg, hp.2⟩ rfl hk h.1 rfl (lv_room hw) d hf) v (fun _ _ q => q) (fun _ q => q) (fun u t H1 locs1 ht hvm hq hB hz1 hk1 hS => ?_)
  exact K u.1 u.2 hq H1 locs1 ls (by rw [← ht]; exact hB.1) hS h
theorem jCallVN_O (C : CX p s m args meth c b D cy cc own nL ret) (n : Nat) {y : MethodName} {idx k : Nat} {cc1 : ByteArray} {nL1 : Nat} {rt : Option FieldType} {rm : Room} {mc ms : Nat} {av : Nat → List Value} {rest : List Value} {Q : Option Nat → Gm → St → Prop} (hM : MT y cc1 nL1 rt rm mc ms av G S (QO Q)) (d : decode cc pc = .ok (.invokevirtual idx, 3)) (hn : pc + 3 = n) {host : String} (wl : Cond.methodLinkNest own idx y host ∈ tables_1) (wi2 : Cond.instanceMethod y ∈ gw) (wse : Cond.selects y.cls y y ∈ gw) (wi : Cond.initialized y.cls ∈ gw) (wc : Cond.code y cc1 nL1 rt ∈ gw) (hrm : rm.cells = mc ∧ rm.slots = ms) (hd : y.cls ≠ "java/lang/invoke/MethodHandle" ∧ y.cls ≠ "java/lang/invoke/VarHandle" ∧ (parseMethodDescriptor y.desc).map (fun d => d.parameters.length) = some k) (hR : rm.frames + 1 ≤ R.frames ∧ 8 + (nL1 + 11) + rm.locals ≤ R.locals) {ci i N : Nat} {T : u_T} {ty : Nat → FieldType} (o : ok G ci i) (kc : KC ci y.cls T N ty) (h11 : ci < 11) {As : List Value} (hav : av b = .ref (b + i) :: As) (hk : As.length = k) {st0 : List Value} (hst : st0 = As.reverse ++ .ref (b + i) :: rest) (hw : (rest.map fun v => v.category).sum ≤ 8) (hf : cells + mc ≤ R.cells ∧ slots + ms ≤ R.slots) (K : ∀ r G1 S1, Q r G1 S1 → J p l e R s m args below meth c b D cy nL Z (cells + mc) (slots + ms) G1 S1 n lv (rv b r :: rest)) : J p l e R s m args below meth c b D cy nL Z cells slots G S pc lv st0 := by
  subst hn
  subst hst
  obtain ⟨hx, hb, hown, hts, hml, hr, hlk, sk, hbs⟩ := C
  intro H locs ls w v h
  have hM1 := hM l b D cy
  have hg := pl_get (b := b) (cy := cy) (S := S) o.1
  rw [o.2] at hg
  simp only [ce, h11, if_true] at hg
  have hp := preS (av := av b) sk w v
  rw [hav] at hp hM1
  refine va_callq (va_runVN (As := As) (rest := rest) (C := y.cls) ⟨hx, hb, hml, hown, hts⟩ hM1 ⟨va_cnB (ret := rt) k hts (gwG wc) rfl hrm.1 hrm.2 (sk.2.1 _ wl rfl) (hts _ wi) hd hR, hts _ wi2, hts _ wse⟩ ⟨hp.1, va_recv sk.1 w.1 kc.1 hg, hp.2⟩ rfl hk h.1 rfl (lv_room hw) d hf) v (fun _ _ q => q) (fun _ q => q) (fun r u t H1 locs1 ht hvm hq hB hz1 hk1 hS => ?_)
  obtain ⟨o1, rfl, hq⟩ := hq
  exact K o1 u.1 u.2 hq H1 locs1 ls (by rw [← ht]; exact hB.1) hS h
theorem jCallI_V (C : CX p s m args meth c b D cy cc own nL ret) (n : Nat) {y : MethodName} {idx k : Nat} {cc1 : ByteArray} {nL1 : Nat} {rm : Room} {mc ms : Nat} {av : Nat → List Value} {rest : List Value} {Q : Gm → St → Prop} (hM : MT y cc1 nL1 none rm mc ms av G S (QV Q)) (d : decode cc pc = .ok (.invokespecial idx, 3)) (hn : pc + 3 = n) (wl : Cond.methodLink own idx y ∈ gw) (wi2 : Cond.instanceMethod y ∈ gw) (hyi : y.name = "<init>") (wi : Cond.initialized y.cls ∈ gw) (wc : Cond.code y cc1 nL1 none ∈ gw) (hrm : rm.cells = mc ∧ rm.slots = ms) (hd : y.cls ≠ "java/lang/invoke/MethodHandle" ∧ y.cls ≠ "java/lang/invoke/VarHandle" ∧ (parseMethodDescriptor y.desc).map (fun d => d.parameters.length) = some k) (hR : rm.frames + 1 ≤ R.frames ∧ 8 + (nL1 + 11) + rm.locals ≤ R.locals) {i : Nat} {As : List Value} (hav : av b = .ref (b + i) :: As) (hk : As.length = k) {st0 : List Value} (hst : st0 = As.reverse ++ .ref (b + i) :: rest) (hw : (rest.map fun v => v.category).sum ≤ 8) (hf : cells + mc ≤ R.cells ∧ slots + ms ≤ R.slots) (K : ∀ G1 S1, Q G1 S1 → J p l e R s m args below meth c b D cy nL Z (cells + mc) (slots + ms) G1 S1 n lv (rest)) : J p l e R s m args below meth c b D cy nL Z cells slots G S pc lv st0 := by
  subst hn
  subst hst
  obtain ⟨hx, hb, hown, hts, hml, hr, hlk, sk, hbs⟩ := C
  intro H locs ls w v h
  have hM1 := hM l b D cy
  have hp := preS (av := av b) sk w v
  rw [hav] at hp hM1
  refine va_callv (va_runI (As := As) (rest := rest) ⟨hx, hb, hml, hown, hts⟩ hM1 ⟨callB_of (ret := none) k hts (gwG wc) rfl hrm.1 hrm.2 (hts _ wi) (hts _ wl) hd hR, hyi, hts _ wi2⟩ hp rfl hk h.1 rfl (lv_room hw) d hf) v (fun _ _ q => q) (fun _ q => q) (fun u t H1 locs1 ht hvm hq hB hz1 hk1 hS => ?_)
  exact K u.1 u.2 hq H1 locs1 ls (by rw [← ht]; exact hB.1) hS h
theorem jCallIN_V (C : CX p s m args meth c b D cy cc own nL ret) (n : Nat) {y : MethodName} {idx k : Nat} {cc1 : ByteArray} {nL1 : Nat} {rm : Room} {mc ms : Nat} {av : Nat → List Value} {rest : List Value} {Q : Gm → St → Prop} (hM : MT y cc1 nL1 none rm mc ms av G S (QV Q)) (d : decode cc pc = .ok (.invokespecial idx, 3)) (hn : pc + 3 = n) {host : String} (wl : Cond.methodLinkNest own idx y host ∈ tables_1) (wi2 : Cond.instanceMethod y ∈ gw) (hyi : y.name = "<init>") (wi : Cond.initialized y.cls ∈ gw) (wc : Cond.code y cc1 nL1 none ∈ gw) (hrm : rm.cells = mc ∧ rm.slots = ms) (hd : y.cls ≠ "java/lang/invoke/MethodHandle" ∧ y.cls ≠ "java/lang/invoke/VarHandle" ∧ (parseMethodDescriptor y.desc).map (fun d => d.parameters.length) = some k) (hR : rm.frames + 1 ≤ R.frames ∧ 8 + (nL1 + 11) + rm.locals ≤ R.locals) {i : Nat} {As : List Value} (hav : av b = .ref (b + i) :: As) (hk : As.length = k) {st0 : List Value} (hst : st0 = As.reverse ++ .ref (b + i) :: rest) (hw : (rest.map fun v => v.category).sum ≤ 8) (hf : cells + mc ≤ R.cells ∧ slots + ms ≤ R.slots) (K : ∀ G1 S1, Q G1 S1 → J p l e R s m args below meth c b D cy nL Z (cells + mc) (slots + ms) G1 S1 n lv (rest)) : J p l e R s m args below meth c b D cy nL Z cells slots G S pc lv st0 := by
  subst hn
  subst hst
  obtain ⟨hx, hb, hown, hts, hml, hr, hlk, sk, hbs⟩ := C
  intro H locs ls w v h
  have hM1 := hM l b D cy
  have hp := preS (av := av b) sk w v
  rw [hav] at hp hM1
  refine va_callv (va_runIN (As := As) (rest := rest) ⟨hx, hb, hml, hown, hts⟩ hM1 ⟨va_cnB (ret := none) k hts (gwG wc) rfl hrm.1 hrm.2 (sk.2.1 _ wl rfl) (hts _ wi) hd hR, hyi, hts _ wi2⟩ hp rfl hk h.1 rfl (lv_room hw) d hf) v (fun _ _ q => q) (fun _ q => q) (fun u t H1 locs1 ht hvm hq hB hz1 hk1 hS => ?_)
  exact K u.1 u.2 hq H1 locs1 ls (by rw [← ht]; exact hB.1) hS h
end JC
