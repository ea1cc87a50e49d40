/-! new objects and arrays -/
def gN (G : Gm) (k n : Nat) : Gm := (va_up G.1 G.2.2 k, va_up G.2.1 G.2.2 n, G.2.2 + 1)
def sN (S : St) (i : Nat) : St := (va_up S.1 i (fun _ => 0), va_up S.2.1 i (fun _ => 0), va_up S.2.2 i (fun _ => none))
def ext (G G1 : Gm) : Prop := G.2.2 ≤ G1.2.2 ∧ ∀ i, i < G.2.2 → G1.1 i = G.1 i ∧ G1.2.1 i = G.2.1 i
theorem ext.rf {G : Gm} : ext G G := ⟨Nat.le_refl _, fun _ _ => ⟨rfl, rfl⟩⟩
theorem ext.tr {G G1 G2 : Gm} (h : ext G G1) (h2 : ext G1 G2) : ext G G2 := ⟨Nat.le_trans h.1 h2.1, fun i hi => ⟨(h2.2 i (Nat.lt_of_lt_of_le hi h.1)).1.trans (h.2 i hi).1, (h2.2 i (Nat.lt_of_lt_of_le hi h.1)).2.trans (h.2 i hi).2⟩⟩
theorem ext.new {G : Gm} {k n : Nat} : ext G (gN G k n) := ⟨Nat.le_succ _, fun i hi => ⟨va_up_ne _ _ (Nat.ne_of_lt hi), va_up_ne _ _ (Nat.ne_of_lt hi)⟩⟩
theorem ext.ok {G G1 : Gm} {k i : Nat} (h : ext G G1) (o : ok G k i) : ok G1 k i := ⟨Nat.lt_of_lt_of_le o.1 h.1, (h.2 i o.1).1.trans o.2⟩
theorem ok_new {G : Gm} {k n : Nat} : ok (gN G k n) k G.2.2 := ⟨Nat.lt_succ_self _, va_up_self _ _ _⟩
def dz : Nat → Value
  | 0 => .int 0
  | 1 => .long 0
  | _ => .null
theorem fvs_new {b : Nat} {S : St} {i k : Nat} : fvs b (sN S i) i k = (fk k).map dz := by
  unfold fvs
  have e : ∀ j t, fv b (sN S i) i j t = dz t := by
    intro j t
    unfold fv dz
    match t with
    | 0 => simp [sN, va_up]
    | 1 => simp [sN, va_up]
    | t + 2 => simp [sN, va_up, rv, va_rf]
  simp only [e]
  apply List.ext_getElem?
  intro q
  simp
theorem wt_new {G : Gm} {S : St} {k n : Nat} (h : Wt G S) : Wt (gN G k n) (sN S G.2.2) := by
  intro i hi j t ht a ha
  by_cases e : i = G.2.2
  · subst e
    simp [sN, va_up] at ha
  · have hi' : i < G.2.2 := by
      have : i < G.2.2 + 1 := hi
      omega
    rw [show (gN G k n).1 i = G.1 i from va_up_ne _ _ e] at ht
    rw [show (sN S G.2.2).2.2 i = S.2.2 i from va_up_ne _ _ e] at ha
    exact ext.new.ok (h i hi' j t ht a ha)
section JN
variable {p : Program} {l : Launch} {e : Env} {R : Room} {s : State} {m : MethodId} {args : Array Value} {below : List Frame} {meth : Method} {c : Code}
variable {b : Nat} {D : va_G} {cy : Nat → ClassId} {cc : ByteArray} {own : String} {nL : Nat} {ret : Option FieldType} {Z : State → Prop} {cells slots : Nat} {G : Gm} {S : St} {pc : Nat} {lv : List (Nat × Value)} {st : List Value}
/-- behind a making: the new cell is the next one -/
theorem wdN {H1 : Heap} {locs : List Loc} {g : Nat → JFrame} {k n q : Nat} {x : va_E} (hE : s.heap.size + cells ≤ b + G.2.2) (hx : ce b cy k n (sN S G.2.2) G.2.2 = x) (hw : Wt G S) (hP : va_P D vwCl (pl b cy G S ++ [(q, x)]) H1) (hD : va_D (fun q => b ≤ q) (pl b cy G S ++ [(q, x)])) (K : Wd b D cy (gN G k n) (sN S G.2.2) H1 → W p l e R s m args below meth c H1 locs (cells + 1) slots Z (g (b + G.2.2))) : W p l e R s m args below meth c H1 locs (cells + 1) slots Z (g q) := by
  refine jSize (fun hz => ?_)
  have hl : (pl b cy G S ++ [(q, x)])[G.2.2]? = some (q, x) := by
    rw [List.getElem?_append_right (by rw [pl_len]; exact Nat.le_refl _), pl_len, Nat.sub_self]
    rfl
  have h1 : q < H1.size := (hP _ _ hl).lt
  have h2 : b ≤ q := hD.2 _ _ hl
  have h3 : q = b + G.2.2 := by
    rcases Nat.lt_or_ge q (b + G.2.2) with h | h
    · have hi : q - b < G.2.2 := by omega
      have h4 := hD.1 (q - b) G.2.2 (b + (q - b), _) (q, x) (by rw [List.getElem?_append_left (by rw [pl_len]; exact hi)]; exact pl_get hi) hl (by simp only; omega)
      omega
    · omega
  subst h3
  rw [pl_push (G' := gN G k n) (S' := sN S G.2.2) rfl (by
    rw [show (gN G k n).1 G.2.2 = k from va_up_self _ _ _, show (gN G k n).2.1 G.2.2 = n from va_up_self _ _ _]
    exact hx) (fun j hj => by
    rw [show (gN G k n).1 j = G.1 j from va_up_ne _ _ (Nat.ne_of_lt hj), show (gN G k n).2.1 j = G.2.1 j from va_up_ne _ _ (Nat.ne_of_lt hj)]
    exact ce_rows (va_up_ne _ _ (Nat.ne_of_lt hj)) (va_up_ne _ _ (Nat.ne_of_lt hj)) (va_up_ne _ _ (Nat.ne_of_lt hj)))] at hP hD
  refine K ⟨hP, hD, ?_, wt_new hw⟩
  show H1.size = b + (G.2.2 + 1)
  omega
theorem jNew (C : CX p s m args meth c b D cy cc own nL ret) (n : Nat) {idx ci N : Nat} {Cn : String} {T : u_T} {ty : Nat → FieldType} (d : decode cc pc = .ok (.new idx, 3)) (hn : pc + 3 = n) (hE : s.heap.size + cells ≤ b + G.2.2) (kc : KC ci Cn T N ty) (h11 : ci < 11) (hdf : ∀ j, j < N → defaultValue (ty j) = vp_V ((fk ci).map dz) j) (wl : Cond.classLink own idx Cn ∈ gw) (wi : Cond.instantiable Cn N ∈ gw) (wz : Cond.initialized Cn ∈ gw) (hc : cells + 1 ≤ R.cells) (hs : slots + N ≤ R.slots) (K : ∀ (a : Nat) (G1 : Gm) (S1 : St), a = G.2.2 → G1 = (gN G ci 0) → S1 = sN S a → J p l e R s m args below meth c b D cy nL Z (cells + 1) (slots + N) G1 S1 n lv (.ref (b + a) :: st)) : J p l e R s m args below meth c b D cy nL Z cells slots G S pc lv st := by
  subst hn
  obtain ⟨hx, hb, hown, hts, hml, hr, hlk, sk, hbs⟩ := C
  intro H locs ls w v h
  refine va_new (fs := (fk ci).map dz) hx hb hts kc.in ty kc.2.2.1 hown (hts _ wl) (hts _ wi) (hts _ wz) sk.1 w.1 w.2.1 v (fun q hq => Nat.le_trans hbs hq) kc.1 hdf hc hs d (fun q H1 hP hD hS => ?_)
  exact wdN (g := fun q => F0 m (pc + 3) ls (.ref q :: st)) (k := ci) (n := 0) hE (by simp only [ce, h11, if_true]; rw [fvs_new]) w.2.2.2 hP hD (fun w1 => K _ _ _ rfl rfl rfl H1 locs ls w1 hS h)
theorem cyI {U : State} {ty : FieldType} {c1 c2 : ClassId} (h1 : va_RA U c1 ty) (h2 : va_RA U c2 ty) : c1 = c2 := by
  cases ty with
  | object C =>
    obtain ⟨_, _, _, _, _, a⟩ := h1
    obtain ⟨_, _, _, _, _, b⟩ := h2
    exact Option.some.inj (a.symm.trans b)
  | _ => exact Option.some.inj (Eq.trans (Eq.symm h1) h2)
theorem jNewI (C : CX p s m args meth c b D cy cc own nL ret) (n : Nat) (B : Nat) {x : Int32} (d : decode cc pc = .ok (.newarray .int, 2)) (hn : pc + 2 = n) (hE : s.heap.size + cells ≤ b + G.2.2) (wa : Cond.arrayClass .int ∈ gw) (h0 : ¬ x < 0) (hB : x.toNatClampNeg ≤ B) (hB2 : B ≤ 100000000) (hc : cells + 1 ≤ R.cells) (hs : slots + B ≤ R.slots) (K : ∀ (a : Nat) (G1 : Gm) (S1 : St), a = G.2.2 → G1 = (gN G 11 x.toNatClampNeg) → S1 = sN S a → J p l e R s m args below meth c b D cy nL Z (cells + 1) (slots + B) G1 S1 n lv (.ref (b + a) :: st)) : J p l e R s m args below meth c b D cy nL Z cells slots G S pc lv (.int x :: st) := by
  subst hn
  obtain ⟨hx, hb, hown, hts, hml, hr, hlk, sk, hbs⟩ := C
  intro H locs ls w v h
  refine va_newa (atype := .int) (ty := .int) (N' := x.toNatClampNeg) (a0 := (x.toNatClampNeg, .inl (fun _ => 0))) hx hb (hts _ wa) rfl sk.1 w.1 w.2.1 v (fun q hq => Nat.le_trans hbs hq) (fun cA => rfl) h0 rfl (by show _ * 4 ≤ _; omega) hc (by omega) d (fun q cA H1 hK hP hD hS => ?_)
  have e : cA = cy 11 := cyI (hK.2 6 _ rfl).2 (sk.1.2 0 _ rfl).2
  subst e
  refine W.widen (Nat.le_refl _) (Nat.add_le_add_left hB _) ?_
  exact wdN (g := fun q => F0 m (pc + 2) ls (.ref q :: st)) (k := 11) (n := x.toNatClampNeg) hE (by simp [ce, sN, va_up]) w.2.2.2 hP hD (fun w1 => K _ _ _ rfl rfl rfl H1 locs ls w1 hS h)
theorem jNewL (C : CX p s m args meth c b D cy cc own nL ret) (n : Nat) (B : Nat) {x : Int32} (d : decode cc pc = .ok (.newarray .long, 2)) (hn : pc + 2 = n) (hE : s.heap.size + cells ≤ b + G.2.2) (wa : Cond.arrayClass .long ∈ gw) (h0 : ¬ x < 0) (hB : x.toNatClampNeg ≤ B) (hB2 : B ≤ 50000000) (hc : cells + 1 ≤ R.cells) (hs : slots + B ≤ R.slots) (K : ∀ (a : Nat) (G1 : Gm) (S1 : St), a = G.2.2 → G1 = (gN G 12 x.toNatClampNeg) → S1 = sN S a → J p l e R s m args below meth c b D cy nL Z (cells + 1) (slots + B) G1 S1 n lv (.ref (b + a) :: st)) : J p l e R s m args below meth c b D cy nL Z cells slots G S pc lv (.int x :: st) := by
  subst hn
  obtain ⟨hx, hb, hown, hts, hml, hr, hlk, sk, hbs⟩ := C
  intro H locs ls w v h
  refine va_newa (atype := .long) (ty := .long) (N' := x.toNatClampNeg) (a0 := (x.toNatClampNeg, .inr (.inl (fun _ => 0)))) hx hb (hts _ wa) rfl sk.1 w.1 w.2.1 v (fun q hq => Nat.le_trans hbs hq) (fun cA => rfl) h0 rfl (by show _ * 8 ≤ _; omega) hc (by omega) d (fun q cA H1 hK hP hD hS => ?_)
  have e : cA = cy 12 := cyI (hK.2 6 _ rfl).2 (sk.1.2 1 _ rfl).2
  subst e
  refine W.widen (Nat.le_refl _) (Nat.add_le_add_left hB _) ?_
  exact wdN (g := fun q => F0 m (pc + 2) ls (.ref q :: st)) (k := 12) (n := x.toNatClampNeg) hE (by simp [ce, sN, va_up]) w.2.2.2 hP hD (fun w1 => K _ _ _ rfl rfl rfl H1 locs ls w1 hS h)
theorem jNewZ (C : CX p s m args meth c b D cy cc own nL ret) (n : Nat) (B : Nat) {x : Int32} (d : decode cc pc = .ok (.newarray .boolean, 2)) (hn : pc + 2 = n) (hE : s.heap.size + cells ≤ b + G.2.2) (wa : Cond.arrayClass .boolean ∈ gw) (h0 : ¬ x < 0) (hB : x.toNatClampNeg ≤ B) (hB2 : B ≤ 50000000) (hc : cells + 1 ≤ R.cells) (hs : slots + B ≤ R.slots) (K : ∀ (a : Nat) (G1 : Gm) (S1 : St), a = G.2.2 → G1 = (gN G 13 x.toNatClampNeg) → S1 = sN S a → J p l e R s m args below meth c b D cy nL Z (cells + 1) (slots + B) G1 S1 n lv (.ref (b + a) :: st)) : J p l e R s m args below meth c b D cy nL Z cells slots G S pc lv (.int x :: st) := by
  subst hn
  obtain ⟨hx, hb, hown, hts, hml, hr, hlk, sk, hbs⟩ := C
  intro H locs ls w v h
  refine va_newa (atype := .boolean) (ty := .boolean) (N' := x.toNatClampNeg) (a0 := (x.toNatClampNeg, .inl (fun _ => 0))) hx hb (hts _ wa) rfl sk.1 w.1 w.2.1 v (fun q hq => Nat.le_trans hbs hq) (fun cA => rfl) h0 rfl (by show _ * 1 ≤ _; omega) hc (by omega) d (fun q cA H1 hK hP hD hS => ?_)
  have e : cA = cy 13 := cyI (hK.2 6 _ rfl).2 (sk.1.2 2 _ rfl).2
  subst e
  refine W.widen (Nat.le_refl _) (Nat.add_le_add_left hB _) ?_
  exact wdN (g := fun q => F0 m (pc + 2) ls (.ref q :: st)) (k := 13) (n := x.toNatClampNeg) hE (by simp [ce, sN, va_up]) w.2.2.2 hP hD (fun w1 => K _ _ _ rfl rfl rfl H1 locs ls w1 hS h)
theorem jNewP (C : CX p s m args meth c b D cy cc own nL ret) (n : Nat) (B : Nat) {idx : Nat} {x : Int32} (d : decode cc pc = .ok (.anewarray idx, 3)) (hn : pc + 3 = n) (hE : s.heap.size + cells ≤ b + G.2.2) (wl : Cond.classLink own idx RX5 ∈ gw) (h0 : ¬ x < 0) (hB : x.toNatClampNeg ≤ B) (hB2 : B ≤ 100000000) (hc : cells + 1 ≤ R.cells) (hs : slots + B ≤ R.slots) (K : ∀ (a : Nat) (G1 : Gm) (S1 : St), a = G.2.2 → G1 = (gN G 14 x.toNatClampNeg) → S1 = sN S a → J p l e R s m args below meth c b D cy nL Z (cells + 1) (slots + B) G1 S1 n lv (.ref (b + a) :: st)) : J p l e R s m args below meth c b D cy nL Z cells slots G S pc lv (.int x :: st) := by
  subst hn
  obtain ⟨hx, hb, hown, hts, hml, hr, hlk, sk, hbs⟩ := C
  intro H locs ls w v h
  refine va_newq (N' := x.toNatClampNeg) hx hb hown (hts _ wl) sk.2.2.1 sk.1 w.1 w.2.1 v (fun q hq => Nat.le_trans hbs hq) h0 rfl (by omega) hc (by omega) d (fun q cA H1 hK hP hD hS => ?_)
  have e : cA = cy 14 := cyI (hK.2 6 _ rfl).2 (sk.1.2 3 _ rfl).2
  subst e
  refine W.widen (Nat.le_refl _) (Nat.add_le_add_left hB _) ?_
  exact wdN (g := fun q => F0 m (pc + 3) ls (.ref q :: st)) (k := 14) (n := x.toNatClampNeg) hE (by simp [ce, sN, va_up]) w.2.2.2 hP hD (fun w1 => K _ _ _ rfl rfl rfl H1 locs ls w1 hS h)
theorem jNewT (C : CX p s m args meth c b D cy cc own nL ret) (n : Nat) (B : Nat) {idx : Nat} {x : Int32} (d : decode cc pc = .ok (.anewarray idx, 3)) (hn : pc + 3 = n) (hE : s.heap.size + cells ≤ b + G.2.2) (wl : Cond.classLink own idx RX8 ∈ gw) (h0 : ¬ x < 0) (hB : x.toNatClampNeg ≤ B) (hB2 : B ≤ 100000000) (hc : cells + 1 ≤ R.cells) (hs : slots + B ≤ R.slots) (K : ∀ (a : Nat) (G1 : Gm) (S1 : St), a = G.2.2 → G1 = (gN G 15 x.toNatClampNeg) → S1 = sN S a → J p l e R s m args below meth c b D cy nL Z (cells + 1) (slots + B) G1 S1 n lv (.ref (b + a) :: st)) : J p l e R s m args below meth c b D cy nL Z cells slots G S pc lv (.int x :: st) := by
  subst hn
  obtain ⟨hx, hb, hown, hts, hml, hr, hlk, sk, hbs⟩ := C
  intro H locs ls w v h
  refine va_newq (N' := x.toNatClampNeg) hx hb hown (hts _ wl) sk.2.2.2.1 sk.1 w.1 w.2.1 v (fun q hq => Nat.le_trans hbs hq) h0 rfl (by omega) hc (by omega) d (fun q cA H1 hK hP hD hS => ?_)
  have e : cA = cy 15 := cyI (hK.2 6 _ rfl).2 (sk.1.2 4 _ rfl).2
  subst e
  refine W.widen (Nat.le_refl _) (Nat.add_le_add_left hB _) ?_
  exact wdN (g := fun q => F0 m (pc + 3) ls (.ref q :: st)) (k := 15) (n := x.toNatClampNeg) hE (by simp [ce, sN, va_up]) w.2.2.2 hP hD (fun w1 => K _ _ _ rfl rfl rfl H1 locs ls w1 hS h)
end JN
