/-! new int[5][32] as the machine makes it, from its own definition: the outer row, then five inner ones, each stored as it comes -/
def mnO (c : ClassId) (h i : Nat) : Cell := arrV c 5 (fun j => va_rf (if j < i then some (h + 1 + j) else none))
def mnI (k : ClassId) : Cell := arrV k 32 (fun _ => .int 0)
def mnT (T : State) (c k : ClassId) : Nat → State
  | 0 => T.pushCell (mnO c T.heap.size 0)
  | i + 1 => ((mnT T c k i).pushCell (mnI k)).setCell T.heap.size (mnO c T.heap.size (i + 1))
def mnL (h : Nat) (locs : List Loc) : Nat → List Loc
  | 0 => locs
  | i + 1 => mnL h locs i ++ [⟨h, i⟩]
theorem mnO_set (c : ClassId) (h i : Nat) : (mnO c h i).setSlot i (.ref (h + 1 + i)) = mnO c h (i + 1) := by
  unfold mnO
  rw [arrV_store]
  refine congrArg (arrV c 5) (funext fun j => ?_)
  by_cases e : j = i
  · subst e
    simp [updV, va_rf]
  · by_cases hj : j < i
    · simp [updV, e, hj, Nat.lt_succ_of_lt hj]
    · simp [updV, e, hj, show ¬ j < i + 1 by omega]
theorem mnT_facts (T : State) (c k : ClassId) : ∀ i : Nat, (mnT T c k i).heap.size = T.heap.size + 1 + i ∧ (mnT T c k i).heap[T.heap.size]? = some (mnO c T.heap.size i) ∧ (mnT T c k i).vm = T.vm
  | 0 => ⟨Array.size_push .., State.heap_pushCell_size _ _, rfl⟩
  | i + 1 => by
    obtain ⟨h1, h2, h3⟩ := mnT_facts T c k i
    have e1 : (mnT T c k (i + 1)).heap = ((mnT T c k i).heap.push (mnI k)).setIfInBounds T.heap.size (mnO c T.heap.size (i + 1)) := rfl
    refine ⟨?_, ?_, h3⟩
    · rw [e1, Array.size_setIfInBounds, Array.size_push, h1]
      omega
    · rw [e1, Array.getElem?_setIfInBounds, if_pos rfl, if_pos (by rw [Array.size_push, h1]; omega)]
theorem mnT_at (T : State) (c k : ClassId) (i : Nat) {q : Nat} (hq : q ≠ T.heap.size) : (mnT T c k (i + 1)).heap[q]? = if q = T.heap.size + 1 + i then some (mnI k) else (mnT T c k i).heap[q]? := by
  have h1 := (mnT_facts T c k i).1
  have e1 : (mnT T c k (i + 1)).heap = ((mnT T c k i).heap.push (mnI k)).setIfInBounds T.heap.size (mnO c T.heap.size (i + 1)) := rfl
  rw [e1, Array.getElem?_setIfInBounds, if_neg (fun h => hq h.symm), Array.getElem?_push, h1]
theorem mnT_old (T : State) (c k : ClassId) {q : Nat} (hq : q < T.heap.size) : ∀ i : Nat, (mnT T c k i).heap[q]? = T.heap[q]?
  | 0 => by
    show (T.heap.push (mnO c T.heap.size 0))[q]? = _
    rw [Array.getElem?_push, if_neg (by omega)]
  | i + 1 => by rw [mnT_at T c k i (by omega), if_neg (by omega), mnT_old T c k hq i]
theorem mnT_in (T : State) (c k : ClassId) (j : Nat) : ∀ i : Nat, j < i → (mnT T c k i).heap[T.heap.size + 1 + j]? = some (mnI k)
  | 0, h => absurd h (Nat.not_lt_zero _)
  | i + 1, h => by
    rw [mnT_at T c k i (by omega)]
    by_cases e : j = i
    · rw [if_pos (by omega)]
    · rw [if_neg (by omega), mnT_in T c k j i (by omega)]
theorem mnT_top (T : State) (f : JFrame) (c k : ClassId) : ∀ i : Nat, mnT (T.setTop f) c k i = (mnT T c k i).setTop f
  | 0 => rfl
  | i + 1 => by
    show ((mnT (T.setTop f) c k i).pushCell (mnI k)).setCell T.heap.size (mnO c T.heap.size (i + 1)) = _
    rw [mnT_top T f c k i]
    rfl
theorem mnT_stand {p : Program} {l : Launch} {e : Env} {R : Room} {s : State} {m : MethodId} {args : Array Value} {below : List Frame} {meth : Method} {c : Code} {T : State} {locs : List Loc} {cells slots : Nat} (X : Stand p l e R s m args below meth c T locs cells slots) (co ci : ClassId) : ∀ i : Nat, Stand p l e R s m args below meth c (mnT T co ci i) (mnL T.heap.size locs i) (cells + 1 + i) (slots + 5 + 32 * i)
  | 0 => by
    have h := X.pushed (mnO co T.heap.size 0)
    rw [show (mnO co T.heap.size 0).slots.size = 5 from arrV_size ..] at h
    exact h
  | i + 1 => by
    have h := (mnT_stand X co ci i).pushed (mnI ci)
    rw [show (mnI ci).slots.size = 32 from arrV_size .., show slots + 5 + 32 * i + 32 = slots + 5 + 32 * (i + 1) by omega] at h
    have f := mnT_facts T co ci i
    have h2 := h.stored (a := T.heap.size) (cell := mnO co T.heap.size i) (by
      show ((mnT T co ci i).heap.push (mnI ci))[T.heap.size]? = _
      rw [Array.getElem?_push, if_neg (by rw [f.1]; omega), f.2.1]) i (.ref (T.heap.size + 1 + i))
    rw [mnO_set] at h2
    exact h2
theorem mnL_mem {h : Nat} {locs : List Loc} {x : Loc} : ∀ i : Nat, x ∈ mnL h locs i → x ∈ locs ∨ x.base = h
  | 0, hx => .inl hx
  | i + 1, hx => by
    rcases List.mem_append.mp hx with h1 | h1
    · exact mnL_mem i h1
    · exact .inr (by rw [List.mem_singleton.mp h1])
theorem mn_over {args : Array Value} {U : State} (h : (Cond.arrayOver (.array .int)).before args U = true) : ∃ (k c : ClassId) (K : Class), U.vm.findClass "[I" = some k ∧ U.vm.findClass "[[I" = some c ∧ U.vm.classes[c]? = some K ∧ K.kind = .array k (.array .int) := by
  unfold Cond.before Cond.holds Cond.value at h
  simp only [show FieldType.toString (.array .int) = "[I" by decide +kernel, show "[" ++ "[I" = "[[I" by decide +kernel, beq_iff_eq] at h
  obtain ⟨k, h1, h⟩ := Option.bind_eq_some_iff.mp h
  obtain ⟨c, h2, h⟩ := Option.bind_eq_some_iff.mp h
  obtain ⟨K, h3, h⟩ := Option.map_eq_some_iff.mp h
  obtain ⟨hl, hp, -⟩ := Array.findIdx?_eq_some_iff_getElem.mp h2
  rw [(Array.getElem?_eq_some_iff.mp h3).2] at hp
  cases hK : K.kind with
  | array k' ty =>
    rw [hK] at h hp
    have h4 := Bool.and_eq_true_iff.mp h
    have e1 : k' = k := by simpa using hp
    exact ⟨k, c, K, h1, of_decide_eq_true h4.2, h3, by rw [hK, e1, of_decide_eq_true h4.1]⟩
  | _ => rw [hK] at h; cases h
set_option maxHeartbeats 2000000 in
theorem mn_make {E : CtlPost} {e : Env} {d : Bool} {acts : List Action} {U : State} {co ci cx : ClassId} {Ko Ki : Class} {Q : Addr → Pre} (h1 : U.vm.classes[co]? = some Ko) (h2 : Ko.kind = .array ci (.array .int)) (h3 : U.vm.classes[ci]? = some Ki) (h4 : Ki.kind = .array cx .int)
    (l1 : 32 ≤ e.platform.arrayLengthLimit) (l2 : 128 ≤ e.platform.maxHeapBytes) (r0 : U.heap.size < e.platform.maxCells ∧ U.slotsUsed + 5 ≤ e.platform.maxSlots) (r1 : ∀ i, i < 5 → (mnT U co ci i).heap.size < e.platform.maxCells ∧ (mnT U co ci i).slotsUsed + 32 ≤ e.platform.maxSlots)
    (hq : ∀ d' acts', Q U.heap.size d' acts' (mnT U co ci 5)) : wp (multianewarray.make co [5, 32]) Q E e d acts U := by
  have inner : ∀ i, i < 5 → ∀ (Q' : Addr → Pre) d' acts', (∀ acts'', Q' (U.heap.size + 1 + i) d' acts'' ((mnT U co ci i).pushCell (mnI ci))) → wp (multianewarray.make ci [32]) Q' E e d' acts' (mnT U co ci i) := by
    intro i hi Q' d' acts' hQ
    obtain ⟨f1, f2, f3⟩ := mnT_facts U co ci i
    have hk : (mnT U co ci i).vm.classes[ci]? = some Ki := by rw [f3]; exact h3
    simp only [multianewarray.make, wp_bind', W.ite, show ¬ (32 : Int32) < 0 by decide, if_false, wp_pure', W.theClass, hk, Option.some.injEq, exists_eq_left', h4]
    refine W.newArray_of hk h4 (by show ¬ 32 > _; omega) (by show ¬ 32 * 4 > _; omega) (r1 i hi).1 (r1 i hi).2 rfl (fun acts'' => ?_)
    rw [f1]
    have := hQ acts''
    rw [show mnI ci = { cls := ci, slots := Array.replicate 32 (.int 0), vm := .none } from (arrV_new ..).symm] at this
    exact this
  have out : ∀ i, i < 5 → ∀ (Q' : Unit → Pre) d' acts', (∀ acts'', Q' () true acts'' (mnT U co ci (i + 1))) → wp (Jvm.writeLoc U.heap.size i (.ref (U.heap.size + 1 + i))) Q' E e d' acts' ((mnT U co ci i).pushCell (mnI ci)) := by
    intro i hi Q' d' acts' hQ
    obtain ⟨f1, f2, f3⟩ := mnT_facts U co ci i
    refine (W.writeLoc ..).mpr ⟨mnO co U.heap.size i, ?_, (by intro h; cases h), (by rw [show (mnO co U.heap.size i).slots.size = 5 from arrV_size ..]; exact hi), ?_, ?_⟩
    · show ((mnT U co ci i).heap.push (mnI ci))[U.heap.size]? = _
      rw [Array.getElem?_push, if_neg (by rw [f1]; omega), f2]
    · have hk : (mnT U co ci i).vm.classes[co]? = some Ko := by rw [f3]; exact h1
      show State.fitsSlot _ co .none i _ = true
      simp [State.fitsSlot, State.slotType?, hk, h2]
      all_goals rfl
    · rw [mnO_set]
      exact hQ _
  unfold multianewarray.make
  simp only [wp_bind', W.ite, show ¬ (5 : Int32) < 0 by decide, if_false, wp_pure', W.theClass, h1, Option.some.injEq, exists_eq_left', h2]
  refine W.newArray_of h1 h2 (by show ¬ 5 > _; omega) (by show ¬ 5 * 4 > _; omega) r0.1 r0.2 rfl (fun acts1 => ?_)
  have e0 : U.pushCell { cls := co, slots := Array.replicate (5 : Int32).toNatClampNeg .null } = mnT U co ci 0 := by
    show U.pushCell { cls := co, slots := Array.replicate 5 .null, vm := .none } = U.pushCell (mnO co U.heap.size 0)
    rw [arrV_new]
    refine congrArg U.pushCell (congrArg (arrV co 5) (funext fun j => ?_))
    simp [va_rf]
  rw [e0]
  rw [if_neg (by decide)]
  have one : ∀ i, i < 5 → ∀ (Q' : ForInStep PUnit → Pre) d' acts', (∀ d'' acts'', Q' (.yield PUnit.unit) d'' acts'' (mnT U co ci (i + 1))) → wp (do
      let r ← multianewarray.make ci [32]
      Jvm.writeLoc U.heap.size i (.ref r)
      Pure.pure (ForInStep.yield PUnit.unit)) Q' E e d' acts' (mnT U co ci i) := by
    intro i hi Q' d' acts' hQ
    rw [wp_bind']
    refine inner i hi _ _ _ fun _ => ?_
    rw [wp_bind']
    exact out i hi _ _ _ fun _ => hQ _ _
  simp only [Std.Legacy.Range.forIn_eq_forIn_range', show [:(5 : Int32).toNatClampNeg].size = 5 by decide, wp_bind']
  refine wp_forIn_inv (fun rest u => ∃ i, i ≤ 5 ∧ rest = List.range' i (5 - i) ∧ u = mnT U co ci i) _ _ ⟨0, by decide, rfl, rfl⟩ ?_ ?_
  · rintro x rest u d' acts' Q' ⟨i, hi, hr, rfl⟩ hn
    obtain ⟨k, hk⟩ : ∃ k, 5 - i = k + 1 := by
      cases h : 5 - i with
      | zero => rw [h] at hr; cases hr
      | succ k => exact ⟨k, rfl⟩
    rw [hk, List.range'_succ] at hr
    injection hr with hr1 hr2
    subst hr1
    refine one x (by omega) _ _ _ fun d'' acts'' => hn _ _ _ ⟨x + 1, by omega, ?_, rfl⟩
    rw [hr2, show 5 - (x + 1) = k by omega]
  · rintro u d' acts' ⟨i, hi, hr, rfl⟩
    have h5 : i = 5 := by
      have := congrArg List.length hr
      rw [List.length_range'] at this
      simp only [List.length_nil] at this
      omega
    subst h5
    exact hq _ _
theorem mn_sem {E : CtlPost} {e : Env} {d : Bool} {acts : List Action} {T : State} {f : JFrame} {idx : Nat} {st : List Value} {co ci cx : ClassId} {Ko Ki : Class} {Q : Unit → Pre} (hs : T.topJava?.isSome) (hs5 : (mnT T co ci 5).topJava?.isSome) (hr : T.vm.classReady f.method.cls idx co) (hst : f.stack = .int 32 :: .int 5 :: st)
    (h1 : T.vm.classes[co]? = some Ko) (h2 : Ko.kind = .array ci (.array .int)) (h3 : T.vm.classes[ci]? = some Ki) (h4 : Ki.kind = .array cx .int)
    (l1 : 32 ≤ e.platform.arrayLengthLimit) (l2 : 128 ≤ e.platform.maxHeapBytes) (r0 : T.heap.size < e.platform.maxCells ∧ T.slotsUsed + 5 ≤ e.platform.maxSlots) (r1 : ∀ i, i < 5 → (mnT T co ci i).heap.size < e.platform.maxCells ∧ (mnT T co ci i).slotsUsed + 32 ≤ e.platform.maxSlots)
    (hq : ∀ d' acts', Q () d' acts' ((mnT T co ci 5).setTop { f with stack := .ref T.heap.size :: st })) : wp (multianewarray.sem idx 2) Q E e d acts (T.setTop f) := by
  simp only [multianewarray.sem, wp_bind']
  rw [W.resolveClassAt_ready (State.method?_setTop f hs) hr]
  simp only [wp_bind']
  refine (W.popN 2).mpr ?_
  rw [if_neg (by decide)]
  refine ⟨f, State.topJava?_setTop' _ hs, [.int 5, .int 32], st, rfl, by simpa using hst, ?_⟩
  rw [State.setTop_setTop]
  simp only [List.mapM_cons, List.mapM_nil, wp_bind', wp_pure']
  refine mn_make (U := T.setTop { f with stack := st }) h1 h2 h3 h4 l1 l2 r0 (by intro i hi; rw [mnT_top]; exact r1 i hi) fun d' acts' => ?_
  simp only [wp_bind', W.mark]
  rw [mnT_top]
  refine (W.pushRef ..).mpr ⟨_, State.topJava?_setTop' _ hs5, ?_⟩
  rw [State.setTop_setTop]
  exact hq _ _
theorem mn_cold {E : CtlPost} {e : Env} {d : Bool} {acts : List Action} {U : State} {f : JFrame} {idx n co : Nat} {vm' : Vm} {Q : Unit → Pre} (hs : U.topJava?.isSome) (hg : (Jvm.resolveClass f.method.cls idx).Gives e.toSetting U.vm (.ok co) vm') (hr : vm'.classReady f.method.cls idx co) (hsz : vm'.classes.size ≤ U.vm.classes.size) (h : wp (multianewarray.sem idx n) Q E e d acts ((U.setVm vm').setTop f)) : wp (multianewarray.sem idx n) Q E e d acts (U.setTop f) := by
  unfold multianewarray.sem at h ⊢
  rw [wp_bind'] at h ⊢
  exact (W.resolveClassAt_transfer (s := U.setTop f) (State.method?_setTop f hs) hg hr hsz).mpr h
theorem mn_step {p : Program} {l : Launch} {e : Env} {R : Room} {s : State} {m : MethodId} {args : Array Value} {below : List Frame} {meth : Method} {c : Code} {T : State} {locs : List Loc} {cells slots : Nat} (X : Stand p l e R s m args below meth c T locs cells slots) (hexec : p.tables.exec = Jvm.exec) {own : String} {idx : Nat} {a1 a2 a3 : Array Value} (hown : s.vm.findClass own = some m.cls) (hcl : (Cond.classLink own idx "[[I").before a1 s = true) (hov : (Cond.arrayOver (.array .int)).before a2 s = true) (hac : (Cond.arrayClass .int).before a3 s = true)
    {g : JFrame} (hg : g.method = m) (hd : decode c.code g.pc = .ok (.multianewarray idx 2, 4)) {st : List Value} (hst : g.stack = .int 32 :: .int 5 :: st) (hc : cells + 6 ≤ R.cells) (hs : slots + 165 ≤ R.slots) :
    ∃ (vm₁ : Vm) (co ci : ClassId), s.vm.findClass "[[I" = some co ∧ s.vm.findClass "[I" = some ci ∧ Stand p l e R s m args below meth c (mnT (T.setVm vm₁) co ci 5) (mnL T.heap.size locs 5) (cells + 6) (slots + 165) ∧
      ∀ target, Steps p.tables e below ((mnT (T.setVm vm₁) co ci 5).setTop { g with pc := g.pc + 4, stack := .ref T.heap.size :: st }) target → Steps p.tables e below (T.setTop g) target := by
  subst hg
  have hpl : e.platform.magicAccessors = ({} : Platform).magicAccessors := by rw [X.admits.platform]
  obtain ⟨ci, co, Ko, f1, f2, h1, h2⟩ := mn_over hov
  obtain ⟨ci', Ki, cx, f3, h3, h4⟩ := Cond.arrayClass_spec hac
  cases f1.symm.trans f3
  obtain ⟨co', f4, hl⟩ := Cond.classLink_spec hown hcl e.platform hpl
  cases f2.symm.trans f4
  obtain ⟨g1, g2, g3⟩ := State.classEntry (e := e) X.warmed hl
  generalize T.vm.noted g.method.cls idx (.cls co) = vm₁ at g1 g2 g3
  obtain ⟨Ko₁, k1, k2⟩ := g2.alike.2.2 _ _ h1
  obtain ⟨Ki₁, k3, k4⟩ := g2.alike.2.2 _ _ h3
  have h2' : Ko₁.kind = .array ci (.array .int) := by rw [k2]; exact h2
  have h4' : Ki₁.kind = .array cx .int := by rw [k4]; exact h4
  have X1 := X.noted g2
  have XS := mnT_stand X1 co ci
  have r0 := X1.roomAbove (a := 1) (b := 5) (by omega) (by omega)
  have r1 : ∀ i, i < 5 → (mnT (T.setVm vm₁) co ci i).heap.size + 1 ≤ e.platform.maxCells ∧ (mnT (T.setVm vm₁) co ci i).slotsUsed + 32 ≤ e.platform.maxSlots := fun i hi => (XS i).roomAbove (by omega) (by omega)
  have l1 : 32 ≤ e.platform.arrayLengthLimit := by rw [Launch.admits_arrayLengthLimit X.admits]; omega
  have l2 : 128 ≤ e.platform.maxHeapBytes := by rw [Launch.admits_maxHeapBytes X.admits]; omega
  refine ⟨vm₁, co, ci, f2, f1, XS 5, fun target hrest => ?_⟩
  refine Steps.instr (c := c) X.here ?_
  rw [hd]
  show wpRun (p.tables.exec (.multianewarray idx 2)) _ _ e (T.setTop g)
  rw [hexec]
  show wp (multianewarray.sem idx 2) _ _ e false [] (T.setTop g)
  have hal : T.vm.Alike vm₁ := X.warmed.alike.symm.trans g2.alike
  refine mn_cold X.here.top g1 g3 (by no_record) (mn_sem (T := T.setVm vm₁) X1.here.top (XS 5).here.top g3 hst k1 h2' k3 h4' l1 l2 r0 r1 ?_)
  intro d' acts' acts''
  rw [afterInstr_ok]
  exact hrest
