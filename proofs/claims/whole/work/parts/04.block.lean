/-! straight stretches: loads, stores, constants, sums: one row a stretch -/
theorem lk_mem {lv : List (Nat × Value)} {i : Nat} {v : Value} (h : lv.lookup i = some v) : (i, v) ∈ lv := by
  induction lv with
  | nil => cases h
  | cons a r ih =>
    obtain ⟨j, w⟩ := a
    rw [List.lookup_cons] at h
    by_cases e : i = j
    · subst e
      simp at h
      subst h
      exact List.mem_cons_self
    · have e2 : (i == j) = false := by simp [e]
      rw [e2] at h
      exact List.mem_cons_of_mem _ (ih h)
theorem lk_at {ls : Array Slot} {nL : Nat} {lv : List (Nat × Value)} {i : Nat} {v : Value} (hl : lv_has ls nL lv) (h : lv.lookup i = some v) : ls[i]? = some (.val v) := hl.2.2 (i, v) (lk_mem h)
def f1 (i : Nat) (lv : List (Nat × Value)) : List (Nat × Value) := lv.filter (fun q => !(q.1 == i) && !(q.1 + 1 == i && q.2.category == 2))
def f2 (i : Nat) (lv : List (Nat × Value)) : List (Nat × Value) := lv.filter (fun q => !(q.1 == i) && (!(q.1 == i + 1) && !(q.1 + 1 == i && q.2.category == 2)))
def gI (v : Option Value) (f : Int32 → Option (List (Nat × Value) × List Value)) : Option (List (Nat × Value) × List Value) := match v with
  | some (.int x) => f x
  | _ => none
def gL (v : Option Value) (f : Int64 → Option (List (Nat × Value) × List Value)) : Option (List (Nat × Value) × List Value) := match v with
  | some (.long x) => f x
  | _ => none
def gA (v : Option Value) (f : Nat → Option (List (Nat × Value) × List Value)) : Option (List (Nat × Value) × List Value) := match v with
  | some (.ref x) => f x
  | _ => none
def sI (st : List Value) (f : Int32 → List Value → Option (List (Nat × Value) × List Value)) : Option (List (Nat × Value) × List Value) := match st with
  | .int x :: r => f x r
  | _ => none
def sL (st : List Value) (f : Int64 → List Value → Option (List (Nat × Value) × List Value)) : Option (List (Nat × Value) × List Value) := match st with
  | .long x :: r => f x r
  | _ => none
def sA (st : List Value) (f : Nat → List Value → Option (List (Nat × Value) × List Value)) : Option (List (Nat × Value) × List Value) := match st with
  | .ref x :: r => f x r
  | _ => none
theorem gI_s {v : Option Value} {f : Int32 → Option (List (Nat × Value) × List Value)} {r : (List (Nat × Value) × List Value)} (h : gI v f = some r) : ∃ x, v = some (.int x) ∧ f x = some r := by
  unfold gI at h
  split at h
  · exact ⟨_, rfl, h⟩
  · cases h
theorem gL_s {v : Option Value} {f : Int64 → Option (List (Nat × Value) × List Value)} {r : (List (Nat × Value) × List Value)} (h : gL v f = some r) : ∃ x, v = some (.long x) ∧ f x = some r := by
  unfold gL at h
  split at h
  · exact ⟨_, rfl, h⟩
  · cases h
theorem gA_s {v : Option Value} {f : Nat → Option (List (Nat × Value) × List Value)} {r : (List (Nat × Value) × List Value)} (h : gA v f = some r) : ∃ x, v = some (.ref x) ∧ f x = some r := by
  unfold gA at h
  split at h
  · exact ⟨_, rfl, h⟩
  · cases h
theorem sI_s {st : List Value} {f : Int32 → List Value → Option (List (Nat × Value) × List Value)} {r : (List (Nat × Value) × List Value)} (h : sI st f = some r) : ∃ x t, st = .int x :: t ∧ f x t = some r := by
  unfold sI at h
  split at h
  · exact ⟨_, _, rfl, h⟩
  · cases h
theorem sL_s {st : List Value} {f : Int64 → List Value → Option (List (Nat × Value) × List Value)} {r : (List (Nat × Value) × List Value)} (h : sL st f = some r) : ∃ x t, st = .long x :: t ∧ f x t = some r := by
  unfold sL at h
  split at h
  · exact ⟨_, _, rfl, h⟩
  · cases h
theorem sA_s {st : List Value} {f : Nat → List Value → Option (List (Nat × Value) × List Value)} {r : (List (Nat × Value) × List Value)} (h : sA st f = some r) : ∃ x t, st = .ref x :: t ∧ f x t = some r := by
  unfold sA at h
  split at h
  · exact ⟨_, _, rfl, h⟩
  · cases h
/-- what stands on top twice -/
def sD (st : List Value) (f : Value → List Value → Option (List (Nat × Value) × List Value)) : Option (List (Nat × Value) × List Value) := match st with
  | .int x :: r => f (.int x) r
  | .ref x :: r => f (.ref x) r
  | _ => none
theorem sD_s {st : List Value} {f : Value → List Value → Option (List (Nat × Value) × List Value)} {r : (List (Nat × Value) × List Value)} (h : sD st f = some r) : ∃ v t, st = v :: t ∧ v.category = 1 ∧ f v t = some r := by
  unfold sD at h
  split at h
  · exact ⟨_, _, rfl, rfl, h⟩
  · exact ⟨_, _, rfl, rfl, h⟩
  · cases h
def exI (i : ClassFile.Instr) (k : Int32) (lv : List (Nat × Value)) (st : List Value) : Option (List (Nat × Value) × List Value) :=
  match i with
  | .iload_n n => gI (lv.lookup n.val) (fun x => some (lv, .int x :: st))
  | .iload n => gI (lv.lookup n) (fun x => some (lv, .int x :: st))
  | .lload_n n => gL (lv.lookup n.val) (fun x => some (lv, .long x :: st))
  | .lload n => gL (lv.lookup n) (fun x => some (lv, .long x :: st))
  | .aload_n n => gA (lv.lookup n.val) (fun x => some (lv, .ref x :: st))
  | .aload n => gA (lv.lookup n) (fun x => some (lv, .ref x :: st))
  | .istore_n n => sI st (fun x r => some ((n.val, .int x) :: f1 n.val lv, r))
  | .istore n => sI st (fun x r => some ((n, .int x) :: f1 n lv, r))
  | .lstore_n n => sL st (fun x r => some ((n.val, .long x) :: f2 n.val lv, r))
  | .lstore n => sL st (fun x r => some ((n, .long x) :: f2 n lv, r))
  | .astore_n n => sA st (fun x r => some ((n.val, .ref x) :: f1 n.val lv, r))
  | .astore n => sA st (fun x r => some ((n, .ref x) :: f1 n lv, r))
  | .iinc n _ => gI (lv.lookup n) (fun x => some ((n, .int (x + k)) :: f1 n lv, st))
  | .iconst _ => some (lv, .int k :: st)
  | .bipush _ => some (lv, .int k :: st)
  | .sipush _ => some (lv, .int k :: st)
  | .lconst n => some (lv, .long (Int64.ofNat n.val) :: st)
  | .iadd => sI st (fun y r => sI r (fun x r => some (lv, .int (x + y) :: r)))
  | .isub => sI st (fun y r => sI r (fun x r => some (lv, .int (x - y) :: r)))
  | .imul => sI st (fun y r => sI r (fun x r => some (lv, .int (x * y) :: r)))
  | .iand => sI st (fun y r => sI r (fun x r => some (lv, .int (x &&& y) :: r)))
  | .ior => sI st (fun y r => sI r (fun x r => some (lv, .int (x ||| y) :: r)))
  | .ixor => sI st (fun y r => sI r (fun x r => some (lv, .int (x ^^^ y) :: r)))
  | .ishl => sI st (fun y r => sI r (fun x r => some (lv, .int (x <<< (y &&& 31)) :: r)))
  | .ishr => sI st (fun y r => sI r (fun x r => some (lv, .int (x >>> (y &&& 31)) :: r)))
  | .iushr => sI st (fun y r => sI r (fun x r => some (lv, .int ((x.toUInt32 >>> (y.toUInt32 &&& Int32.toUInt32 31)).toInt32) :: r)))
  | .ineg => sI st (fun x r => some (lv, .int (-x) :: r))
  | .ladd => sL st (fun y r => sL r (fun x r => some (lv, .long (x + y) :: r)))
  | .lsub => sL st (fun y r => sL r (fun x r => some (lv, .long (x - y) :: r)))
  | .lmul => sL st (fun y r => sL r (fun x r => some (lv, .long (x * y) :: r)))
  | .lcmp => sL st (fun y r => sL r (fun x r => some (lv, .int (lg_cmp x y) :: r)))
  | .i2l => sI st (fun x r => some (lv, .long x.toInt64 :: r))
  | .l2i => sL st (fun x r => some (lv, .int x.toInt32 :: r))
  | .dup => sD st (fun x r => some (lv, x :: x :: r))
  | .dup2 => sD st (fun x r => sD r (fun y r => some (lv, x :: y :: x :: y :: r)))
  | .pop => sD st (fun _ r => some (lv, r))
  | _ => none
/-- an instruction's length, its constant, room for its store -/
def dcI (nL : Nat) (i : ClassFile.Instr) (n : Nat) (k : Int32) : Bool :=
  match i with
  | .iload _ => n == 2
  | .lload _ => n == 2
  | .aload _ => n == 2
  | .istore_n j => n == 1 && decide (j.val < nL)
  | .istore j => n == 2 && decide (j < nL)
  | .lstore_n j => n == 1 && decide (j.val + 1 < nL)
  | .lstore j => n == 2 && decide (j + 1 < nL)
  | .astore_n j => n == 1 && decide (j.val < nL)
  | .astore j => n == 2 && decide (j < nL)
  | .iinc j v => n == 3 && (decide (j < nL) && decide (Int32.ofInt v = k))
  | .iconst v => n == 1 && decide (Int32.ofInt v = k)
  | .bipush v => n == 2 && decide ((Int8.ofInt v).toInt32 = k)
  | .sipush v => n == 3 && decide ((Int16.ofInt v).toInt32 = k)
  | _ => n == 1
def dcs (cc : ByteArray) (nL : Nat) : List (ClassFile.Instr × Nat × Int32) → Nat → Bool
  | [], _ => true
  | (i, n, k) :: r, pc => decide (decode cc pc = .ok (i, n)) && (dcI nL i n k && dcs cc nL r (pc + n))
def exs : List (ClassFile.Instr × Nat × Int32) → List (Nat × Value) → List Value → Option (List (Nat × Value) × List Value)
  | [], lv, st => some (lv, st)
  | (i, _, k) :: r, lv, st => match exI i k lv st with
    | some (lv1, st1) => exs r lv1 st1
    | none => none
def lens : List (ClassFile.Instr × Nat × Int32) → Nat → Nat
  | [], pc => pc
  | (_, n, _) :: r, pc => lens r (pc + n)
section JL
variable {p : Program} {l : Launch} {e : Env} {R : Room} {s : State} {m : MethodId} {args : Array Value} {below : List Frame} {meth : Method} {c : Code}
variable {b : Nat} {D : va_G} {cy : Nat → ClassId} {cc : ByteArray} {own : String} {nL : Nat} {ret : Option FieldType} {Z : State → Prop} {cells slots : Nat} {G : Gm} {S : St} {pc : Nat} {lv : List (Nat × Value)} {st : List Value}
set_option maxHeartbeats 4000000 in
theorem jI1 (C : CX p s m args meth c b D cy cc own nL ret) {i : ClassFile.Instr} {n : Nat} {k : Int32} {lv1 : List (Nat × Value)} {st1 : List Value} (d : decode cc pc = .ok (i, n)) (hc : dcI nL i n k = true) (hx : exI i k lv st = some (lv1, st1)) (K : J p l e R s m args below meth c b D cy nL Z cells slots G S (pc + n) lv1 st1) : J p l e R s m args below meth c b D cy nL Z cells slots G S pc lv st := by
  obtain ⟨hx0, hb, -⟩ := C
  intro H locs ls w v h
  cases i with
  | iload_n j => obtain ⟨x, hk, hx⟩ := gI_s hx; cases hx; simp only [dcI, beq_iff_eq] at hc; subst hc; exact lv_iload_n hx0 hb d rfl (lk_at h hk) (K H locs ls w v h)
  | iload j => obtain ⟨x, hk, hx⟩ := gI_s hx; cases hx; simp only [dcI, beq_iff_eq] at hc; subst hc; exact lv_iload hx0 hb d (lk_at h hk) (K H locs ls w v h)
  | lload_n j => obtain ⟨x, hk, hx⟩ := gL_s hx; cases hx; simp only [dcI, beq_iff_eq] at hc; subst hc; exact lv_lload_n hx0 hb d rfl (lk_at h hk) (K H locs ls w v h)
  | lload j => obtain ⟨x, hk, hx⟩ := gL_s hx; cases hx; simp only [dcI, beq_iff_eq] at hc; subst hc; exact lv_lload hx0 hb d (lk_at h hk) (K H locs ls w v h)
  | aload_n j => obtain ⟨x, hk, hx⟩ := gA_s hx; cases hx; simp only [dcI, beq_iff_eq] at hc; subst hc; exact lv_aload_n hx0 hb d rfl (lk_at h hk) (K H locs ls w v h)
  | aload j => obtain ⟨x, hk, hx⟩ := gA_s hx; cases hx; simp only [dcI, beq_iff_eq] at hc; subst hc; exact lv_aload hx0 hb d (lk_at h hk) (K H locs ls w v h)
  | istore_n j => obtain ⟨x, t, rfl, hx⟩ := sI_s hx; cases hx; simp only [dcI, beq_iff_eq, Bool.and_eq_true, decide_eq_true_eq] at hc; obtain ⟨rfl, hc⟩ := hc; exact lv_istore_n hx0 hb d rfl h hc rfl (fun ls h => K H locs ls w v h)
  | istore j => obtain ⟨x, t, rfl, hx⟩ := sI_s hx; cases hx; simp only [dcI, beq_iff_eq, Bool.and_eq_true, decide_eq_true_eq] at hc; obtain ⟨rfl, hc⟩ := hc; exact lv_istore hx0 hb d h hc rfl (fun ls h => K H locs ls w v h)
  | lstore_n j => obtain ⟨x, t, rfl, hx⟩ := sL_s hx; cases hx; simp only [dcI, beq_iff_eq, Bool.and_eq_true, decide_eq_true_eq] at hc; obtain ⟨rfl, hc⟩ := hc; exact lv_lstore_n hx0 hb d rfl h hc rfl (fun ls h => K H locs ls w v h)
  | lstore j => obtain ⟨x, t, rfl, hx⟩ := sL_s hx; cases hx; simp only [dcI, beq_iff_eq, Bool.and_eq_true, decide_eq_true_eq] at hc; obtain ⟨rfl, hc⟩ := hc; exact lv_lstore hx0 hb d h hc rfl (fun ls h => K H locs ls w v h)
  | astore_n j => obtain ⟨x, t, rfl, hx⟩ := sA_s hx; cases hx; simp only [dcI, beq_iff_eq, Bool.and_eq_true, decide_eq_true_eq] at hc; obtain ⟨rfl, hc⟩ := hc; exact lv_astore_n hx0 hb d rfl h hc rfl (fun ls h => K H locs ls w v h)
  | astore j => obtain ⟨x, t, rfl, hx⟩ := sA_s hx; cases hx; simp only [dcI, beq_iff_eq, Bool.and_eq_true, decide_eq_true_eq] at hc; obtain ⟨rfl, hc⟩ := hc; exact lv_astore hx0 hb d h hc rfl (fun ls h => K H locs ls w v h)
  | iinc j u => obtain ⟨x, hk, hx⟩ := gI_s hx; cases hx; simp only [dcI, beq_iff_eq, Bool.and_eq_true, decide_eq_true_eq] at hc; obtain ⟨rfl, hc, hv⟩ := hc; obtain ⟨q, hq⟩ := List.getElem?_of_mem (lk_mem hk); exact lv_iinc hx0 hb d h hq (by rw [hv]) hc rfl (fun ls h => K H locs ls w v h)
  | iconst j => cases hx; simp only [dcI, beq_iff_eq, Bool.and_eq_true, decide_eq_true_eq] at hc; obtain ⟨rfl, hc⟩ := hc; exact lv_iconst hx0 hb d hc (K H locs ls w v h)
  | bipush j => cases hx; simp only [dcI, beq_iff_eq, Bool.and_eq_true, decide_eq_true_eq] at hc; obtain ⟨rfl, hc⟩ := hc; exact lv_bipush hx0 hb d hc (K H locs ls w v h)
  | sipush j => cases hx; simp only [dcI, beq_iff_eq, Bool.and_eq_true, decide_eq_true_eq] at hc; obtain ⟨rfl, hc⟩ := hc; exact lv_sipush hx0 hb d hc (K H locs ls w v h)
  | lconst j => cases hx; simp only [dcI, beq_iff_eq] at hc; subst hc; exact lv_lconst hx0 hb d rfl (K H locs ls w v h)
  | iadd => obtain ⟨y, t, rfl, hx⟩ := sI_s hx; obtain ⟨x, t, rfl, hx⟩ := sI_s hx; cases hx; simp only [dcI, beq_iff_eq] at hc; subst hc; exact lv_iadd hx0 hb d (K H locs ls w v h)
  | isub => obtain ⟨y, t, rfl, hx⟩ := sI_s hx; obtain ⟨x, t, rfl, hx⟩ := sI_s hx; cases hx; simp only [dcI, beq_iff_eq] at hc; subst hc; exact lv_isub hx0 hb d (K H locs ls w v h)
  | imul => obtain ⟨y, t, rfl, hx⟩ := sI_s hx; obtain ⟨x, t, rfl, hx⟩ := sI_s hx; cases hx; simp only [dcI, beq_iff_eq] at hc; subst hc; exact lv_imul hx0 hb d (K H locs ls w v h)
  | iand => obtain ⟨y, t, rfl, hx⟩ := sI_s hx; obtain ⟨x, t, rfl, hx⟩ := sI_s hx; cases hx; simp only [dcI, beq_iff_eq] at hc; subst hc; exact lv_iand hx0 hb d (K H locs ls w v h)
  | ior => obtain ⟨y, t, rfl, hx⟩ := sI_s hx; obtain ⟨x, t, rfl, hx⟩ := sI_s hx; cases hx; simp only [dcI, beq_iff_eq] at hc; subst hc; exact lv_ior hx0 hb d (K H locs ls w v h)
  | ixor => obtain ⟨y, t, rfl, hx⟩ := sI_s hx; obtain ⟨x, t, rfl, hx⟩ := sI_s hx; cases hx; simp only [dcI, beq_iff_eq] at hc; subst hc; exact lv_ixor hx0 hb d (K H locs ls w v h)
  | ishl => obtain ⟨y, t, rfl, hx⟩ := sI_s hx; obtain ⟨x, t, rfl, hx⟩ := sI_s hx; cases hx; simp only [dcI, beq_iff_eq] at hc; subst hc; exact lv_ishl hx0 hb d (K H locs ls w v h)
  | ishr => obtain ⟨y, t, rfl, hx⟩ := sI_s hx; obtain ⟨x, t, rfl, hx⟩ := sI_s hx; cases hx; simp only [dcI, beq_iff_eq] at hc; subst hc; exact lv_ishr hx0 hb d (K H locs ls w v h)
  | iushr => obtain ⟨y, t, rfl, hx⟩ := sI_s hx; obtain ⟨x, t, rfl, hx⟩ := sI_s hx; cases hx; simp only [dcI, beq_iff_eq] at hc; subst hc; exact lv_iushr hx0 hb d rfl (K H locs ls w v h)
  | ineg => obtain ⟨x, t, rfl, hx⟩ := sI_s hx; cases hx; simp only [dcI, beq_iff_eq] at hc; subst hc; exact lv_ineg hx0 hb d (K H locs ls w v h)
  | ladd => obtain ⟨y, t, rfl, hx⟩ := sL_s hx; obtain ⟨x, t, rfl, hx⟩ := sL_s hx; cases hx; simp only [dcI, beq_iff_eq] at hc; subst hc; exact lv_ladd hx0 hb d (K H locs ls w v h)
  | lsub => obtain ⟨y, t, rfl, hx⟩ := sL_s hx; obtain ⟨x, t, rfl, hx⟩ := sL_s hx; cases hx; simp only [dcI, beq_iff_eq] at hc; subst hc; exact lv_lsub hx0 hb d (K H locs ls w v h)
  | lmul => obtain ⟨y, t, rfl, hx⟩ := sL_s hx; obtain ⟨x, t, rfl, hx⟩ := sL_s hx; cases hx; simp only [dcI, beq_iff_eq] at hc; subst hc; exact lv_lmul hx0 hb d (K H locs ls w v h)
  | lcmp => obtain ⟨y, t, rfl, hx⟩ := sL_s hx; obtain ⟨x, t, rfl, hx⟩ := sL_s hx; cases hx; simp only [dcI, beq_iff_eq] at hc; subst hc; exact W.lcmp hx0 hb d (K H locs ls w v h)
  | i2l => obtain ⟨x, t, rfl, hx⟩ := sI_s hx; cases hx; simp only [dcI, beq_iff_eq] at hc; subst hc; exact lv_i2l hx0 hb d rfl (K H locs ls w v h)
  | l2i => obtain ⟨x, t, rfl, hx⟩ := sL_s hx; cases hx; simp only [dcI, beq_iff_eq] at hc; subst hc; exact lv_l2i hx0 hb d rfl (K H locs ls w v h)
  | dup => have hx : sD st (fun x r => some (lv, x :: x :: r)) = some (lv1, st1) := hx; obtain ⟨x, t, rfl, h1, hx⟩ := sD_s hx; cases hx; simp only [dcI, beq_iff_eq] at hc; subst hc; exact lv_dup hx0 hb d h1 (K H locs ls w v h)
  | dup2 => have hx : sD st (fun x r => sD r (fun y r => some (lv, x :: y :: x :: y :: r))) = some (lv1, st1) := hx; obtain ⟨x, t, rfl, h1, hx⟩ := sD_s hx; obtain ⟨y, t, rfl, h2, hx⟩ := sD_s hx; cases hx; simp only [dcI, beq_iff_eq] at hc; subst hc; exact lv_dup2_11 hx0 hb d h1 h2 (K H locs ls w v h)
  | pop => have hx : sD st (fun _ r => some (lv, r)) = some (lv1, st1) := hx; obtain ⟨x, t, rfl, h1, hx⟩ := sD_s hx; cases hx; simp only [dcI, beq_iff_eq] at hc; subst hc; exact lv_pop hx0 hb d h1 (K H locs ls w v h)
  | _ => cases (show (none : Option (List (Nat × Value) × List Value)) = some (lv1, st1) from hx)
theorem jBs (C : CX p s m args meth c b D cy cc own nL ret) : ∀ (is : List (ClassFile.Instr × Nat × Int32)) {pc : Nat} {lv lv1 : List (Nat × Value)} {st st1 : List Value}, dcs cc nL is pc = true → exs is lv st = some (lv1, st1) → J p l e R s m args below meth c b D cy nL Z cells slots G S (lens is pc) lv1 st1 → J p l e R s m args below meth c b D cy nL Z cells slots G S pc lv st
  | [], pc, lv, lv1, st, st1, _, hx, K => by
    simp only [exs, Option.some.injEq, Prod.mk.injEq] at hx
    obtain ⟨rfl, rfl⟩ := hx
    exact K
  | (i, n, k) :: r, pc, lv, lv1, st, st1, hd, hx, K => by
    simp only [dcs, Bool.and_eq_true, decide_eq_true_eq] at hd
    obtain ⟨d, hc, hr⟩ := hd
    simp only [exs] at hx
    split at hx
    · rename_i lv2 st2 he
      exact jI1 C d hc he (jBs C r hr hx K)
    · cases hx
/-- a straight stretch -/
theorem jB (C : CX p s m args meth c b D cy cc own nL ret) (is : List (ClassFile.Instr × Nat × Int32)) (n : Nat) (lv1 : List (Nat × Value)) (st1 : List Value) (hd : dcs cc nL is pc = true) (hx : exs is lv st = some (lv1, st1)) (hn : lens is pc = n) (K : J p l e R s m args below meth c b D cy nL Z cells slots G S n lv1 st1) : J p l e R s m args below meth c b D cy nL Z cells slots G S pc lv st := jBs C is hd hx (hn ▸ K)
end JL
