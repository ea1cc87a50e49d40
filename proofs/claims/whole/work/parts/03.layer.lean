/-! THE LAYER: a memory of ids (cell i stands at address b + i), a judgement J over it, one row an instruction. -/
/-- ints, longs, references: by id and place -/
abbrev St : Type := (Nat → Nat → Int32) × (Nat → Nat → Int64) × (Nat → Nat → Option Nat)
/-- kinds, lengths, how many cells -/
abbrev Gm : Type := (Nat → Nat) × (Nat → Nat) × Nat
/-- the sorts of the fields: 0 int, 1 long, 2 reference -/
def fk : Nat → List Nat
  | 0 => [2, 2, 2, 2, 2, 2, 0, 0]
  | 1 => [2, 2]
  | 2 => [2, 2]
  | 3 => [2, 2, 2, 2, 2, 2, 2, 2, 2, 2, 2, 2]
  | 4 => [0, 2, 2, 2, 2, 0, 2, 2, 0, 2, 0]
  | 5 => [2, 0, 2, 2, 2, 0, 0, 0, 0, 0, 2]
  | 6 => [2]
  | 7 => [2, 2, 2, 2, 2, 0, 0]
  | 8 => [2, 0, 0]
  | 9 => [2, 2, 2, 2, 2, 2, 2, 2, 2, 2, 0, 0, 0]
  | 10 => [0, 0, 2, 2, 2, 2, 2, 2, 2, 0, 2, 2, 0, 2, 0, 0, 0, 0, 1, 0, 0, 0, 0, 2, 0, 2, 2, 0, 2, 2, 0, 0, 2, 2, 2, 0, 2, 2, 2, 2, 0, 1, 1, 2, 2, 2, 2, 2, 2, 2, 2, 2, 2, 0, 0, 0, 0, 1, 2, 0]
  | _ => []
def rv (b : Nat) (r : Option Nat) : Value := va_rf (r.map (fun i => b + i))
def fv (b : Nat) (S : St) (i j t : Nat) : Value := match t with
  | 0 => .int (S.1 i j)
  | 1 => .long (S.2.1 i j)
  | _ => rv b (S.2.2 i j)
def fvs (b : Nat) (S : St) (i k : Nat) : List Value := (fk k).mapIdx (fun j t => fv b S i j t)
def ce (b : Nat) (cy : Nat → ClassId) (k n : Nat) (S : St) (i : Nat) : va_E :=
  if k < 11 then .inr (k, fvs b S i k)
  else if k = 11 ∨ k = 13 then .inl (cy k, n, .inl (S.1 i))
  else if k = 12 then .inl (cy k, n, .inr (.inl (S.2.1 i)))
  else .inl (cy k, n, .inr (.inr (.inr (.inr (fun j => (S.2.2 i j).map (fun i => b + i))))))
def pl (b : Nat) (cy : Nat → ClassId) (G : Gm) (S : St) : va_W := (List.range G.2.2).map (fun i => (b + i, ce b cy (G.1 i) (G.2.1 i) S i))
theorem pl_get {b : Nat} {cy : Nat → ClassId} {G : Gm} {S : St} {i : Nat} (h : i < G.2.2) : (pl b cy G S)[i]? = some (b + i, ce b cy (G.1 i) (G.2.1 i) S i) := by
  unfold pl
  rw [List.getElem?_map, List.getElem?_range h]
  rfl
theorem pl_len {b : Nat} {cy : Nat → ClassId} {G : Gm} {S : St} : (pl b cy G S).length = G.2.2 := by simp [pl]
theorem pl_set {b : Nat} {cy : Nat → ClassId} {G : Gm} {S S' : St} {i : Nat} {x : va_E} (h : i < G.2.2) (hx : ce b cy (G.1 i) (G.2.1 i) S' i = x) (ho : ∀ j, j ≠ i → ce b cy (G.1 j) (G.2.1 j) S' j = ce b cy (G.1 j) (G.2.1 j) S j) : (pl b cy G S).set i (b + i, x) = pl b cy G S' := by
  apply List.ext_getElem?
  intro j
  by_cases hj : j = i
  · subst hj
    rw [List.getElem?_set_self (by rw [pl_len]; exact h), pl_get h, hx]
  · rw [List.getElem?_set_ne (Ne.symm hj)]
    by_cases hn : j < G.2.2
    · rw [pl_get hn, pl_get hn, ho j hj]
    · rw [List.getElem?_eq_none (by rw [pl_len]; omega), List.getElem?_eq_none (by rw [pl_len]; omega)]
theorem pl_push {b : Nat} {cy : Nat → ClassId} {G G' : Gm} {S S' : St} {x : va_E} (hn : G'.2.2 = G.2.2 + 1) (hx : ce b cy (G'.1 G.2.2) (G'.2.1 G.2.2) S' G.2.2 = x) (ho : ∀ j, j < G.2.2 → ce b cy (G'.1 j) (G'.2.1 j) S' j = ce b cy (G.1 j) (G.2.1 j) S j) : pl b cy G S ++ [(b + G.2.2, x)] = pl b cy G' S' := by
  unfold pl
  rw [hn, List.range_succ, List.map_append]
  congr 1
  · apply List.map_congr_left
    intro j hj
    rw [ho j (List.mem_range.mp hj)]
  · simp [hx]
/-- a cell of a kind -/
def ok (G : Gm) (k i : Nat) : Prop := i < G.2.2 ∧ G.1 i = k
/-- which kind the references of a kind's place point to -/
def rk (k j : Nat) : Option Nat :=
  match k with
  | 0 => [some 4, some 8, some 2, some 1, some 6, some 11].getD j none
  | 1 => [some 2, some 11].getD j none
  | 2 => [some 11, some 6].getD j none
  | 3 => [some 2, some 11, some 11, some 11, some 11, some 11, some 11, some 11, some 11, some 16, some 11, some 12].getD j none
  | 4 => [none, some 11, some 11, some 11, some 11, none, some 11, some 11, none, some 15].getD j none
  | 5 => [some 11, none, some 11, some 11, some 11, none, none, none, none, none, some 7].getD j none
  | 6 => [some 12].getD j none
  | 7 => [some 11, some 11, some 11, some 11, some 11].getD j none
  | 8 => [some 11].getD j none
  | 9 => [some 4, some 4, some 14, some 8, some 2, some 1, some 0, some 3, some 5, some 11].getD j none
  | 10 => [none, none, some 11, some 11, some 11, some 11, some 13, some 11, some 11, none, some 11, some 11, none, some 11, none, none, none, none, none, none, none, none, none, some 11, none, some 11, some 11, none, some 11, some 11, none, none, some 12, some 12, some 12, none, some 12, some 12, some 11, some 12, none, none, none, some 11, some 11, some 11, some 11, some 13, some 11, some 11, some 12, some 12, some 11, none, none, none, none, none, some 11].getD j none
  | 14 => some 4
  | 15 => some 7
  | 16 => some 11
  | _ => none
/-- the references are of their kinds -/
def Wt (G : Gm) (S : St) : Prop := ∀ i, i < G.2.2 → ∀ j t, rk (G.1 i) j = some t → ∀ a, S.2.2 i j = some a → ok G t a
def tyl (cy : Nat → ClassId) : List (ClassId × FieldType) := [(cy 11, .int), (cy 12, .long), (cy 13, .boolean), (cy 14, .object RX5), (cy 15, .object RX8), (cy 16, .array .int)]
/-- the words that are no good words: a state's own -/
def isN : Cond → Bool
  | .methodLinkNest _ _ _ _ => true
  | .fieldLinkNest _ _ _ _ _ _ => true
  | _ => false
def NN (U : State) : Prop := ∀ w ∈ tables_1, isN w = true → va_Nw w U
theorem NN.warm {s U : State} (hW : s.WarmedH U.vm) (h : NN s) : NN U := by
  intro w hw hn
  have h1 := h w hw hn
  cases w <;> first | exact va_Nw.warmM hW h1 | exact va_Nw.warmF hW h1 | (simp [isN] at hn)
/-- the constants: the row of the most of the TERMS, the names' text -/
def txS : String := "grinds grows does bars sin grind swap cloth pass if times of with or and not person kind sins sight lit first day mood done latest scene "
def byS : List Int32 := [103, 114, 105, 110, 100, 115, 32, 103, 114, 111, 119, 115, 32, 100, 111, 101, 115, 32, 98, 97, 114, 115, 32, 115, 105, 110, 32, 103, 114, 105, 110, 100, 32, 115, 119, 97, 112, 32, 99, 108, 111, 116, 104, 32, 112, 97, 115, 115, 32, 105, 102, 32, 116, 105, 109, 101, 115, 32, 111, 102, 32, 119, 105, 116, 104, 32, 111, 114, 32, 97, 110, 100, 32, 110, 111, 116, 32, 112, 101, 114, 115, 111, 110, 32, 107, 105, 110, 100, 32, 115, 105, 110, 115, 32, 115, 105, 103, 104, 116, 32, 108, 105, 116, 32, 102, 105, 114, 115, 116, 32, 100, 97, 121, 32, 109, 111, 111, 100, 32, 100, 111, 110, 101, 32, 108, 97, 116, 101, 115, 116, 32, 115, 99, 101, 110, 101, 32]
def mot (j : Nat) : Value := .int (([999, 10, 9, 255] : List Int32).getD j 0)
def CS (b : Nat) (cy : Nat → ClassId) (U : State) (H : Heap) : Prop := va_Z "SinLenses" "MOST_OF_TERMS" "[I" (.ref (cy 100)) (fun q => b ≤ q) U H ∧ va_T .int (cy 100) 4 mot (fun q => b ≤ q) U H ∧ va_Z "java/lang/String" "COMPACT_STRINGS" "Z" (.int 1) (fun q => b ≤ q) U H ∧ vk_S 1 [137] [byS] (fun _ => cy 101) (fun _ => cy 102) (fun q => b ≤ q) U H ∧ vk_R "SinLenses$Reader" 90 txS (cy 101) U ∧ va_Zq "jdk/internal/util/Preconditions" "SIOOBE_FORMATTER" "Ljava/util/function/BiFunction;" (fun q => b ≤ q) U H
def va_AI (U : State) : Prop := (Cond.arrayOver (.array .int)).before #[] U = true
theorem va_AI.moved {u U : State} (hvm : u.vm.Alike U.vm) (h : va_AI u) : va_AI U := by
  unfold va_AI Cond.before Cond.holds at h ⊢
  simp only [Cond.value] at h ⊢
  rw [hvm.findClass]
  cases hc : u.vm.findClass (FieldType.array .int).toString with
  | none => rw [hc] at h; cases h
  | some comp =>
    rw [hc] at h
    rw [Option.bind_some] at h ⊢
    have hi : (U.vm.classes.findIdx? fun (x : Class) => match x.kind with | .array component _ => component == comp | _ => false) = (u.vm.classes.findIdx? fun (x : Class) => match x.kind with | .array component _ => component == comp | _ => false) := by
      have hb : U.vm.bare = u.vm.bare := by first | exact hvm.bare_eq | exact hvm.bare_eq.symm
      have e1 := va_idx_bare U.vm comp
      rw [hb] at e1
      exact e1.symm.trans (va_idx_bare u.vm comp)
    have h : ((u.vm.classes.findIdx? fun (x : Class) => match x.kind with | .array component _ => component == comp | _ => false).bind (fun c => (u.vm.classes[c]?).map fun (k : Class) => match k.kind with | .array _ ty => decide (ty = FieldType.array .int) && decide (u.vm.findClass ("[" ++ (FieldType.array .int).toString) = some c) | _ => false) == some true) = true := h
    generalize (u.vm.classes.findIdx? fun (x : Class) => match x.kind with | .array component _ => component == comp | _ => false) = oi at h hi
    refine (congrArg (fun o : Option Nat => (o.bind (fun c => (U.vm.classes[c]?).map fun (k : Class) => match k.kind with | .array _ ty => decide (ty = FieldType.array .int) && decide (U.vm.findClass ("[" ++ (FieldType.array .int).toString) = some c) | _ => false) == some true)) hi).trans ?_
    cases oi with
    | none => cases h
    | some c =>
      rw [Option.bind_some] at h ⊢
      cases hk : u.vm.classes[c]? with
      | none => rw [hk] at h; cases h
      | some k =>
        obtain ⟨k', hk', he⟩ := hvm.2.2 _ _ hk
        rw [hk] at h
        rw [hk', Option.map_some, he, hvm.findClass]
        exact h
/-- what a state's tables say -/
def SK (b : Nat) (D : va_G) (cy : Nat → ClassId) (U : State) : Prop := va_K D vwCl (tyl cy) U ∧ NN U ∧ va_AO RX5 U ∧ va_AO RX8 U ∧ CS b cy U U.heap ∧ va_AI U
theorem SK.go {b : Nat} {D : va_G} {cy : Nat → ClassId} {s U : State} (hW : s.WarmedH U.vm) (hH : ∀ a : Nat, a < s.heap.size → ¬ b ≤ a → U.heap[a]? = s.heap[a]?) (h : SK b D cy s) : SK b D cy U := by
  obtain ⟨h1, h2, h3, h4, ⟨c1, c2, c3, c4, c5, c6⟩, h6⟩ := h
  exact ⟨va_K.moved hW.alike h1, NN.warm hW h2, va_AO.moved hW.alike h3, va_AO.moved hW.alike h4, ⟨(c1.kept hH).moved hW.alike, (c2.kept hH).moved hW.alike, (c3.kept hH).moved hW.alike, (c4.kept hH).moved hW.alike, vk_R.warm hW c5, (c6.kept hH).moved hW.alike⟩, va_AI.moved hW.alike h6⟩
def Wd (b : Nat) (D : va_G) (cy : Nat → ClassId) (G : Gm) (S : St) (H : Heap) : Prop := va_P D vwCl (pl b cy G S) H ∧ va_D (fun q => b ≤ q) (pl b cy G S) ∧ H.size = b + G.2.2 ∧ Wt G S
def WU (b : Nat) (D : va_G) (cy : Nat → ClassId) (G : Gm) (S : St) (U : State) : Prop := Wd b D cy G S U.heap ∧ SK b D cy U
section JL
variable {p : Program} {l : Launch} {e : Env} {R : Room} {s : State} {m : MethodId} {args : Array Value} {below : List Frame} {meth : Method} {c : Code}
variable {b : Nat} {D : va_G} {cy : Nat → ClassId} {cc : ByteArray} {own : String} {nL : Nat} {ret : Option FieldType} {Z : State → Prop} {cells slots : Nat} {G : Gm} {S : St} {pc : Nat} {lv : List (Nat × Value)} {st : List Value}
def CX (p : Program) (s : State) (m : MethodId) (args : Array Value) (meth : Method) (c : Code) (b : Nat) (D : va_G) (cy : Nat → ClassId) (cc : ByteArray) (own : String) (nL : Nat) (ret : Option FieldType) : Prop :=
  p.tables.exec = Jvm.exec ∧ c.code = cc ∧ s.vm.findClass own = some m.cls ∧ (∀ w ∈ gw, w.before args s = true) ∧ c.maxLocals = nL ∧ meth.sig.returnType = ret ∧ meth.locks = false ∧ SK b D cy s ∧ b ≤ s.heap.size
def J (p : Program) (l : Launch) (e : Env) (R : Room) (s : State) (m : MethodId) (args : Array Value) (below : List Frame) (meth : Method) (c : Code) (b : Nat) (D : va_G) (cy : Nat → ClassId) (nL : Nat) (Z : State → Prop) (cells slots : Nat) (G : Gm) (S : St) (pc : Nat) (lv : List (Nat × Value)) (st : List Value) : Prop :=
  ∀ (H : Heap) (locs : List Loc) (ls : Array Slot), Wd b D cy G S H → va_S (fun q => b ≤ q) s.heap H locs → lv_has ls nL lv → W p l e R s m args below meth c H locs cells slots Z (F0 m pc ls st)
theorem jSize {H : Heap} {locs : List Loc} {g : JFrame} (k : H.size ≤ s.heap.size + cells → W p l e R s m args below meth c H locs cells slots Z g) : W p l e R s m args below meth c H locs cells slots Z g := by
  intro T hT X
  have h1 : T.heap.size ≤ s.heap.size + cells := X.same.2.2.1
  exact k (by rw [← hT]; exact h1) T hT X
end JL
