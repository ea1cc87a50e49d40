/-! fields and arrays -/
def uI (S : St) (i j : Nat) (v : Int32) : St := (fun a k => if a = i ∧ k = j then v else S.1 a k, S.2)
def uJ (S : St) (i j : Nat) (v : Int64) : St := (S.1, fun a k => if a = i ∧ k = j then v else S.2.1 a k, S.2.2)
def uR (S : St) (i j : Nat) (v : Option Nat) : St := (S.1, S.2.1, fun a k => if a = i ∧ k = j then v else S.2.2 a k)
theorem ce_rows {b : Nat} {cy : Nat → ClassId} {k n : Nat} {S S' : St} {i : Nat} (h1 : S'.1 i = S.1 i) (h2 : S'.2.1 i = S.2.1 i) (h3 : S'.2.2 i = S.2.2 i) : ce b cy k n S' i = ce b cy k n S i := by
  have e : ∀ j t, fv b S' i j t = fv b S i j t := by
    intro j t
    unfold fv
    rw [h1, h2, h3]
  unfold ce fvs
  simp only [e, h1, h2, h3]
theorem uI_ne {S : St} {i j : Nat} {v : Int32} {a : Nat} (h : a ≠ i) : (uI S i j v).1 a = S.1 a := by funext k; simp [uI, h]
theorem uJ_ne {S : St} {i j : Nat} {v : Int64} {a : Nat} (h : a ≠ i) : (uJ S i j v).2.1 a = S.2.1 a := by funext k; simp [uJ, h]
theorem uR_ne {S : St} {i j : Nat} {v : Option Nat} {a : Nat} (h : a ≠ i) : (uR S i j v).2.2 a = S.2.2 a := by funext k; simp [uR, h]
theorem uI_row {S : St} {i j : Nat} {v : Int32} : (uI S i j v).1 i = upd (S.1 i) j v := by funext k; simp [uI, upd]
theorem uJ_row {S : St} {i j : Nat} {v : Int64} : (uJ S i j v).2.1 i = vp_updL (S.2.1 i) j v := by funext k; simp [uJ, vp_updL]
theorem uR_row {S : St} {i j : Nat} {v : Option Nat} : (uR S i j v).2.2 i = va_up (S.2.2 i) j v := by funext k; simp [uR, va_up]
theorem fvs_get {b : Nat} {S : St} {i k j t : Nat} (h : (fk k)[j]? = some t) : (fvs b S i k)[j]? = some (fv b S i j t) := by simp [fvs, List.getElem?_mapIdx, h]
theorem fvs_len {b : Nat} {S : St} {i k : Nat} : (fvs b S i k).length = (fk k).length := by simp [fvs]
theorem fvs_set {b : Nat} {S S' : St} {i k j t : Nat} {x : Value} (h : (fk k)[j]? = some t) (hx : fv b S' i j t = x) (ho : ∀ j' t', j' ≠ j → fv b S' i j' t' = fv b S i j' t') : fvs b S' i k = (fvs b S i k).set j x := by
  apply List.ext_getElem?
  intro q
  by_cases e : q = j
  · subst e
    have hl : q < (fvs b S i k).length := by rw [fvs_len]; exact (List.getElem?_eq_some_iff.mp h).1
    rw [List.getElem?_set_self hl, fvs_get h, hx]
  · rw [List.getElem?_set_ne (Ne.symm e)]
    simp only [fvs, List.getElem?_mapIdx]
    cases hq : (fk k)[q]? with
    | none => rfl
    | some t' => simp [ho q t' e]
section JM
variable {p : Program} {l : Launch} {e : Env} {R : Room} {s : State} {m : MethodId} {args : Array Value} {below : List Frame} {meth : Method} {c : Code}
variable {b : Nat} {D : va_G} {cy : Nat → ClassId} {cc : ByteArray} {own : String} {nL : Nat} {ret : Option FieldType} {Z : State → Prop} {cells slots : Nat} {G : Gm} {S : St} {pc : Nat} {lv : List (Nat × Value)} {st : List Value}
/-- behind a store -/
theorem wdS {H1 : Heap} {locs : List Loc} {g : JFrame} {S' : St} {i : Nat} {x : va_E} (hE : s.heap.size + cells ≤ b + G.2.2) (hi : i < G.2.2) (hx : ce b cy (G.1 i) (G.2.1 i) S' i = x) (ho : ∀ j, j ≠ i → ce b cy (G.1 j) (G.2.1 j) S' j = ce b cy (G.1 j) (G.2.1 j) S j) (hw : Wt G S') (hP : va_P D vwCl ((pl b cy G S).set i (b + i, x)) H1) (hD : va_D (fun q => b ≤ q) ((pl b cy G S).set i (b + i, x))) (K : Wd b D cy G S' H1 → W p l e R s m args below meth c H1 locs cells slots Z g) : W p l e R s m args below meth c H1 locs cells slots Z g := by
  rw [pl_set hi hx ho] at hP hD
  refine jSize (fun hz => K ⟨hP, hD, ?_, hw⟩)
  have h1 := (hP (G.2.2 - 1) _ (pl_get (by omega))).lt
  simp only at h1
  omega
theorem wtR {S : St} {i k : Nat} {r : Option Nat} (h : Wt G S) (hr : ∀ t, rk (G.1 i) k = some t → ∀ a, r = some a → ok G t a) : Wt G (uR S i k r) := by
  intro i' hi' j t ht a ha
  simp only [uR] at ha
  split at ha
  · rename_i e
    obtain ⟨rfl, rfl⟩ := e
    exact hr t ht a ha
  · exact h i' hi' j t ht a ha
theorem jGetI (C : CX p s m args meth c b D cy cc own nL ret) (n : Nat) {idx ci i N : Nat} {Cn : String} {T : u_T} {ty : Nat → FieldType} (d : decode cc pc = .ok (.getfield idx, 3)) (hn : pc + 3 = n) (o : ok G ci i) (kc : KC ci Cn T N ty) (k : Nat) (hk : k < N) (hf : (fk ci)[k]? = some 0) (hT : (T k).1 = Cn) (h11 : ci < 11) (wl : Cond.fieldLink own idx Cn (T k).2.1 (T k).2.2.1 ∈ gw) (K : J p l e R s m args below meth c b D cy nL Z cells slots G S n lv (.int (S.1 i k) :: st)) : J p l e R s m args below meth c b D cy nL Z cells slots G S pc lv (.ref (b + i) :: st) := by
  subst hn
  obtain ⟨hx, hb, hown, hts, hml, hr, hlk, sk, hbs⟩ := C
  intro H locs ls w v h
  have hg := pl_get (b := b) (cy := cy) (S := S) o.1
  rw [o.2] at hg
  simp only [ce, h11, if_true] at hg
  exact va_get hx hb hts kc.in hown sk.1 w.1 i hg kc.1 k hk (hts _ wl) (fun x h => by rw [hT] at h; exact h) (fvs_get hf) d (K H locs ls w v h)
theorem jGetJ (C : CX p s m args meth c b D cy cc own nL ret) (n : Nat) {idx ci i N : Nat} {Cn : String} {T : u_T} {ty : Nat → FieldType} (d : decode cc pc = .ok (.getfield idx, 3)) (hn : pc + 3 = n) (o : ok G ci i) (kc : KC ci Cn T N ty) (k : Nat) (hk : k < N) (hf : (fk ci)[k]? = some 1) (hT : (T k).1 = Cn) (h11 : ci < 11) (wl : Cond.fieldLink own idx Cn (T k).2.1 (T k).2.2.1 ∈ gw) (K : J p l e R s m args below meth c b D cy nL Z cells slots G S n lv (.long (S.2.1 i k) :: st)) : J p l e R s m args below meth c b D cy nL Z cells slots G S pc lv (.ref (b + i) :: st) := by
  subst hn
  obtain ⟨hx, hb, hown, hts, hml, hr, hlk, sk, hbs⟩ := C
  intro H locs ls w v h
  have hg := pl_get (b := b) (cy := cy) (S := S) o.1
  rw [o.2] at hg
  simp only [ce, h11, if_true] at hg
  exact va_get hx hb hts kc.in hown sk.1 w.1 i hg kc.1 k hk (hts _ wl) (fun x h => by rw [hT] at h; exact h) (fvs_get hf) d (K H locs ls w v h)
theorem jGetR (C : CX p s m args meth c b D cy cc own nL ret) (n : Nat) {idx ci i N : Nat} {Cn : String} {T : u_T} {ty : Nat → FieldType} (d : decode cc pc = .ok (.getfield idx, 3)) (hn : pc + 3 = n) (o : ok G ci i) (kc : KC ci Cn T N ty) (k : Nat) (hk : k < N) (hf : (fk ci)[k]? = some 2) (hT : (T k).1 = Cn) (h11 : ci < 11) (wl : Cond.fieldLink own idx Cn (T k).2.1 (T k).2.2.1 ∈ gw) {a : Nat} (hs : S.2.2 i k = some a) {tk : Nat} (hrk : rk ci k = some tk) (K : ok G tk a → J p l e R s m args below meth c b D cy nL Z cells slots G S n lv (.ref (b + a) :: st)) : J p l e R s m args below meth c b D cy nL Z cells slots G S pc lv (.ref (b + i) :: st) := by
  subst hn
  obtain ⟨hx, hb, hown, hts, hml, hr, hlk, sk, hbs⟩ := C
  intro H locs ls w v h
  have hg := pl_get (b := b) (cy := cy) (S := S) o.1
  rw [o.2] at hg
  simp only [ce, h11, if_true] at hg
  have hv : (fvs b S i ci)[k]? = some (.ref (b + a)) := by rw [fvs_get hf]; simp only [fv, rv, hs]; rfl
  exact va_get hx hb hts kc.in hown sk.1 w.1 i hg kc.1 k hk (hts _ wl) (fun x h => by rw [hT] at h; exact h) hv d (K (w.2.2.2 i o.1 k tk (by rw [o.2]; exact hrk) a hs) H locs ls w v h)
theorem jGetIN (C : CX p s m args meth c b D cy cc own nL ret) (n : Nat) {idx ci i N : Nat} {Cn : String} {T : u_T} {ty : Nat → FieldType} (d : decode cc pc = .ok (.getfield idx, 3)) (hn : pc + 3 = n) (o : ok G ci i) (kc : KC ci Cn T N ty) (k : Nat) (hk : k < N) (hf : (fk ci)[k]? = some 0) (hT : (T k).1 = Cn) (h11 : ci < 11) {host : String} (wl : Cond.fieldLinkNest own idx Cn (T k).2.1 (T k).2.2.1 host ∈ tables_1) (K : J p l e R s m args below meth c b D cy nL Z cells slots G S n lv (.int (S.1 i k) :: st)) : J p l e R s m args below meth c b D cy nL Z cells slots G S pc lv (.ref (b + i) :: st) := by
  subst hn
  obtain ⟨hx, hb, hown, hts, hml, hr, hlk, sk, hbs⟩ := C
  intro H locs ls w v h
  have hg := pl_get (b := b) (cy := cy) (S := S) o.1
  rw [o.2] at hg
  simp only [ce, h11, if_true] at hg
  exact va_getN hx hb hts kc.in hown sk.1 w.1 i hg kc.1 k hk (va_Nw.use rfl (sk.2.1 _ wl rfl)) (fun x h => by rw [hT] at h; exact h) (fvs_get hf) d (K H locs ls w v h)
theorem jGetJN (C : CX p s m args meth c b D cy cc own nL ret) (n : Nat) {idx ci i N : Nat} {Cn : String} {T : u_T} {ty : Nat → FieldType} (d : decode cc pc = .ok (.getfield idx, 3)) (hn : pc + 3 = n) (o : ok G ci i) (kc : KC ci Cn T N ty) (k : Nat) (hk : k < N) (hf : (fk ci)[k]? = some 1) (hT : (T k).1 = Cn) (h11 : ci < 11) {host : String} (wl : Cond.fieldLinkNest own idx Cn (T k).2.1 (T k).2.2.1 host ∈ tables_1) (K : J p l e R s m args below meth c b D cy nL Z cells slots G S n lv (.long (S.2.1 i k) :: st)) : J p l e R s m args below meth c b D cy nL Z cells slots G S pc lv (.ref (b + i) :: st) := by
  subst hn
  obtain ⟨hx, hb, hown, hts, hml, hr, hlk, sk, hbs⟩ := C
  intro H locs ls w v h
  have hg := pl_get (b := b) (cy := cy) (S := S) o.1
  rw [o.2] at hg
  simp only [ce, h11, if_true] at hg
  exact va_getN hx hb hts kc.in hown sk.1 w.1 i hg kc.1 k hk (va_Nw.use rfl (sk.2.1 _ wl rfl)) (fun x h => by rw [hT] at h; exact h) (fvs_get hf) d (K H locs ls w v h)
theorem jGetRN (C : CX p s m args meth c b D cy cc own nL ret) (n : Nat) {idx ci i N : Nat} {Cn : String} {T : u_T} {ty : Nat → FieldType} (d : decode cc pc = .ok (.getfield idx, 3)) (hn : pc + 3 = n) (o : ok G ci i) (kc : KC ci Cn T N ty) (k : Nat) (hk : k < N) (hf : (fk ci)[k]? = some 2) (hT : (T k).1 = Cn) (h11 : ci < 11) {host : String} (wl : Cond.fieldLinkNest own idx Cn (T k).2.1 (T k).2.2.1 host ∈ tables_1) {a : Nat} (hs : S.2.2 i k = some a) {tk : Nat} (hrk : rk ci k = some tk) (K : ok G tk a → J p l e R s m args below meth c b D cy nL Z cells slots G S n lv (.ref (b + a) :: st)) : J p l e R s m args below meth c b D cy nL Z cells slots G S pc lv (.ref (b + i) :: st) := by
  subst hn
  obtain ⟨hx, hb, hown, hts, hml, hr, hlk, sk, hbs⟩ := C
  intro H locs ls w v h
  have hg := pl_get (b := b) (cy := cy) (S := S) o.1
  rw [o.2] at hg
  simp only [ce, h11, if_true] at hg
  have hv : (fvs b S i ci)[k]? = some (.ref (b + a)) := by rw [fvs_get hf]; simp only [fv, rv, hs]; rfl
  exact va_getN hx hb hts kc.in hown sk.1 w.1 i hg kc.1 k hk (va_Nw.use rfl (sk.2.1 _ wl rfl)) (fun x h => by rw [hT] at h; exact h) hv d (K (w.2.2.2 i o.1 k tk (by rw [o.2]; exact hrk) a hs) H locs ls w v h)
theorem jPutI (C : CX p s m args meth c b D cy cc own nL ret) (n : Nat) {idx ci i N : Nat} {Cn : String} {T : u_T} {ty : Nat → FieldType} {v1 : Int32} (d : decode cc pc = .ok (.putfield idx, 3)) (hn : pc + 3 = n) (hE : s.heap.size + cells ≤ b + G.2.2) (o : ok G ci i) (kc : KC ci Cn T N ty) (k : Nat) (hk : k < N) (hf : (fk ci)[k]? = some 0) (hT : (T k).1 = Cn) (h11 : ci < 11) (hfin : (T k).2.2.2 = false) (wl : Cond.fieldLink own idx Cn (T k).2.1 (T k).2.2.1 ∈ gw) {fty : FieldType} (hd : parseFieldDescriptor (T k).2.2.1 = some fty) (hna : narrow fty (.int v1) = .int v1) (hfi : fits fty (.int v1) = true)  (K : J p l e R s m args below meth c b D cy nL Z cells slots G (uI S i k v1) n lv st) : J p l e R s m args below meth c b D cy nL Z cells slots G S pc lv (.int v1 :: .ref (b + i) :: st) := by
  subst hn
  obtain ⟨hx, hb, hown, hts, hml, hr, hlk, sk, hbs⟩ := C
  intro H locs ls w v h
  have hg := pl_get (b := b) (cy := cy) (S := S) o.1
  rw [o.2] at hg
  simp only [ce, h11, if_true] at hg
  refine va_put hx hb hts kc.in ty kc.2.2.1 kc.2.2.2 hown sk.1 w.1 w.2.1 v i hg kc.1 k hk (hts _ wl) (fun x h => by rw [hT] at h; exact h) hfin hd hna hfi (by rw [fvs_len]; exact (List.getElem?_eq_some_iff.mp hf).1) d (fun H1 locs1 hP hD hS => ?_)
  refine wdS (S := S) hE o.1 (S' := uI S i k v1) ?_ (fun j hj => ce_rows (uI_ne hj) rfl rfl) w.2.2.2 hP hD (fun w1 => K H1 locs1 ls w1 hS h)
  rw [o.2]
  simp only [ce, h11, if_true]
  rw [fvs_set hf (S := S) (x := .int v1) (by simp [fv, uI]) (fun j t hj => by simp only [fv, uI]; split <;> simp [hj])]
theorem jPutJ (C : CX p s m args meth c b D cy cc own nL ret) (n : Nat) {idx ci i N : Nat} {Cn : String} {T : u_T} {ty : Nat → FieldType} {v1 : Int64} (d : decode cc pc = .ok (.putfield idx, 3)) (hn : pc + 3 = n) (hE : s.heap.size + cells ≤ b + G.2.2) (o : ok G ci i) (kc : KC ci Cn T N ty) (k : Nat) (hk : k < N) (hf : (fk ci)[k]? = some 1) (hT : (T k).1 = Cn) (h11 : ci < 11) (hfin : (T k).2.2.2 = false) (wl : Cond.fieldLink own idx Cn (T k).2.1 (T k).2.2.1 ∈ gw) {fty : FieldType} (hd : parseFieldDescriptor (T k).2.2.1 = some fty) (hna : narrow fty (.long v1) = .long v1) (hfi : fits fty (.long v1) = true)  (K : J p l e R s m args below meth c b D cy nL Z cells slots G (uJ S i k v1) n lv st) : J p l e R s m args below meth c b D cy nL Z cells slots G S pc lv (.long v1 :: .ref (b + i) :: st) := by
  subst hn
  obtain ⟨hx, hb, hown, hts, hml, hr, hlk, sk, hbs⟩ := C
  intro H locs ls w v h
  have hg := pl_get (b := b) (cy := cy) (S := S) o.1
  rw [o.2] at hg
  simp only [ce, h11, if_true] at hg
  refine va_put hx hb hts kc.in ty kc.2.2.1 kc.2.2.2 hown sk.1 w.1 w.2.1 v i hg kc.1 k hk (hts _ wl) (fun x h => by rw [hT] at h; exact h) hfin hd hna hfi (by rw [fvs_len]; exact (List.getElem?_eq_some_iff.mp hf).1) d (fun H1 locs1 hP hD hS => ?_)
  refine wdS (S := S) hE o.1 (S' := uJ S i k v1) ?_ (fun j hj => ce_rows rfl (uJ_ne hj) rfl) w.2.2.2 hP hD (fun w1 => K H1 locs1 ls w1 hS h)
  rw [o.2]
  simp only [ce, h11, if_true]
  rw [fvs_set hf (S := S) (x := .long v1) (by simp [fv, uJ]) (fun j t hj => by simp only [fv, uJ]; split <;> simp [hj])]
theorem jPutR (C : CX p s m args meth c b D cy cc own nL ret) (n : Nat) {idx ci i N : Nat} {Cn : String} {T : u_T} {ty : Nat → FieldType} {v1 : Nat} (d : decode cc pc = .ok (.putfield idx, 3)) (hn : pc + 3 = n) (hE : s.heap.size + cells ≤ b + G.2.2) (o : ok G ci i) (kc : KC ci Cn T N ty) (k : Nat) (hk : k < N) (hf : (fk ci)[k]? = some 2) (hT : (T k).1 = Cn) (h11 : ci < 11) (hfin : (T k).2.2.2 = false) (wl : Cond.fieldLink own idx Cn (T k).2.1 (T k).2.2.1 ∈ gw) {fty : FieldType} (hd : parseFieldDescriptor (T k).2.2.1 = some fty) (hna : narrow fty (.ref (b + v1)) = .ref (b + v1)) (hfi : fits fty (.ref (b + v1)) = true) (htk : ∀ t, rk ci k = some t → ok G t v1) (K : J p l e R s m args below meth c b D cy nL Z cells slots G (uR S i k (some v1)) n lv st) : J p l e R s m args below meth c b D cy nL Z cells slots G S pc lv (.ref (b + v1) :: .ref (b + i) :: st) := by
  subst hn
  obtain ⟨hx, hb, hown, hts, hml, hr, hlk, sk, hbs⟩ := C
  intro H locs ls w v h
  have hg := pl_get (b := b) (cy := cy) (S := S) o.1
  rw [o.2] at hg
  simp only [ce, h11, if_true] at hg
  refine va_put hx hb hts kc.in ty kc.2.2.1 kc.2.2.2 hown sk.1 w.1 w.2.1 v i hg kc.1 k hk (hts _ wl) (fun x h => by rw [hT] at h; exact h) hfin hd hna hfi (by rw [fvs_len]; exact (List.getElem?_eq_some_iff.mp hf).1) d (fun H1 locs1 hP hD hS => ?_)
  refine wdS (S := S) hE o.1 (S' := uR S i k (some v1)) ?_ (fun j hj => ce_rows rfl rfl (uR_ne hj)) (wtR w.2.2.2 (fun t ht a ha => by cases ha; exact htk t (by rw [← o.2]; exact ht))) hP hD (fun w1 => K H1 locs1 ls w1 hS h)
  rw [o.2]
  simp only [ce, h11, if_true]
  rw [fvs_set hf (S := S) (x := .ref (b + v1)) (by simp [fv, uR, rv, va_rf]) (fun j t hj => by simp only [fv, uR]; split <;> simp [hj])]
theorem jPutIF (C : CX p s m args meth c b D cy cc own nL ret) (n : Nat) {idx ci i N : Nat} {Cn : String} {T : u_T} {ty : Nat → FieldType} {v1 : Int32} (d : decode cc pc = .ok (.putfield idx, 3)) (hn : pc + 3 = n) (hE : s.heap.size + cells ≤ b + G.2.2) (o : ok G ci i) (kc : KC ci Cn T N ty) (k : Nat) (hk : k < N) (hf : (fk ci)[k]? = some 0) (hT : (T k).1 = Cn) (h11 : ci < 11) (hfin : (T k).2.2.2 = true) (hin : meth.name = "<init>") (hdc : (T k).1 = own) (wl : Cond.fieldLink own idx Cn (T k).2.1 (T k).2.2.1 ∈ gw) {fty : FieldType} (hd : parseFieldDescriptor (T k).2.2.1 = some fty) (hna : narrow fty (.int v1) = .int v1) (hfi : fits fty (.int v1) = true)  (K : J p l e R s m args below meth c b D cy nL Z cells slots G (uI S i k v1) n lv st) : J p l e R s m args below meth c b D cy nL Z cells slots G S pc lv (.int v1 :: .ref (b + i) :: st) := by
  subst hn
  obtain ⟨hx, hb, hown, hts, hml, hr, hlk, sk, hbs⟩ := C
  intro H locs ls w v h
  have hg := pl_get (b := b) (cy := cy) (S := S) o.1
  rw [o.2] at hg
  simp only [ce, h11, if_true] at hg
  refine va_putF hx hb hts kc.in ty kc.2.2.1 kc.2.2.2 hown sk.1 w.1 w.2.1 v i hg kc.1 k hk (hts _ wl) (fun x h => by rw [hT] at h; exact h) hfin hin hdc hd hna hfi (by rw [fvs_len]; exact (List.getElem?_eq_some_iff.mp hf).1) d (fun H1 locs1 hP hD hS => ?_)
  refine wdS (S := S) hE o.1 (S' := uI S i k v1) ?_ (fun j hj => ce_rows (uI_ne hj) rfl rfl) w.2.2.2 hP hD (fun w1 => K H1 locs1 ls w1 hS h)
  rw [o.2]
  simp only [ce, h11, if_true]
  rw [fvs_set hf (S := S) (x := .int v1) (by simp [fv, uI]) (fun j t hj => by simp only [fv, uI]; split <;> simp [hj])]
theorem jPutJF (C : CX p s m args meth c b D cy cc own nL ret) (n : Nat) {idx ci i N : Nat} {Cn : String} {T : u_T} {ty : Nat → FieldType} {v1 : Int64} (d : decode cc pc = .ok (.putfield idx, 3)) (hn : pc + 3 = n) (hE : s.heap.size + cells ≤ b + G.2.2) (o : ok G ci i) (kc : KC ci Cn T N ty) (k : Nat) (hk : k < N) (hf : (fk ci)[k]? = some 1) (hT : (T k).1 = Cn) (h11 : ci < 11) (hfin : (T k).2.2.2 = true) (hin : meth.name = "<init>") (hdc : (T k).1 = own) (wl : Cond.fieldLink own idx Cn (T k).2.1 (T k).2.2.1 ∈ gw) {fty : FieldType} (hd : parseFieldDescriptor (T k).2.2.1 = some fty) (hna : narrow fty (.long v1) = .long v1) (hfi : fits fty (.long v1) = true)  (K : J p l e R s m args below meth c b D cy nL Z cells slots G (uJ S i k v1) n lv st) : J p l e R s m args below meth c b D cy nL Z cells slots G S pc lv (.long v1 :: .ref (b + i) :: st) := by
  subst hn
  obtain ⟨hx, hb, hown, hts, hml, hr, hlk, sk, hbs⟩ := C
  intro H locs ls w v h
  have hg := pl_get (b := b) (cy := cy) (S := S) o.1
  rw [o.2] at hg
  simp only [ce, h11, if_true] at hg
  refine va_putF hx hb hts kc.in ty kc.2.2.1 kc.2.2.2 hown sk.1 w.1 w.2.1 v i hg kc.1 k hk (hts _ wl) (fun x h => by rw [hT] at h; exact h) hfin hin hdc hd hna hfi (by rw [fvs_len]; exact (List.getElem?_eq_some_iff.mp hf).1) d (fun H1 locs1 hP hD hS => ?_)
  refine wdS (S := S) hE o.1 (S' := uJ S i k v1) ?_ (fun j hj => ce_rows rfl (uJ_ne hj) rfl) w.2.2.2 hP hD (fun w1 => K H1 locs1 ls w1 hS h)
  rw [o.2]
  simp only [ce, h11, if_true]
  rw [fvs_set hf (S := S) (x := .long v1) (by simp [fv, uJ]) (fun j t hj => by simp only [fv, uJ]; split <;> simp [hj])]
theorem jPutRF (C : CX p s m args meth c b D cy cc own nL ret) (n : Nat) {idx ci i N : Nat} {Cn : String} {T : u_T} {ty : Nat → FieldType} {v1 : Nat} (d : decode cc pc = .ok (.putfield idx, 3)) (hn : pc + 3 = n) (hE : s.heap.size + cells ≤ b + G.2.2) (o : ok G ci i) (kc : KC ci Cn T N ty) (k : Nat) (hk : k < N) (hf : (fk ci)[k]? = some 2) (hT : (T k).1 = Cn) (h11 : ci < 11) (hfin : (T k).2.2.2 = true) (hin : meth.name = "<init>") (hdc : (T k).1 = own) (wl : Cond.fieldLink own idx Cn (T k).2.1 (T k).2.2.1 ∈ gw) {fty : FieldType} (hd : parseFieldDescriptor (T k).2.2.1 = some fty) (hna : narrow fty (.ref (b + v1)) = .ref (b + v1)) (hfi : fits fty (.ref (b + v1)) = true) (htk : ∀ t, rk ci k = some t → ok G t v1) (K : J p l e R s m args below meth c b D cy nL Z cells slots G (uR S i k (some v1)) n lv st) : J p l e R s m args below meth c b D cy nL Z cells slots G S pc lv (.ref (b + v1) :: .ref (b + i) :: st) := by
  subst hn
  obtain ⟨hx, hb, hown, hts, hml, hr, hlk, sk, hbs⟩ := C
  intro H locs ls w v h
  have hg := pl_get (b := b) (cy := cy) (S := S) o.1
  rw [o.2] at hg
  simp only [ce, h11, if_true] at hg
  refine va_putF hx hb hts kc.in ty kc.2.2.1 kc.2.2.2 hown sk.1 w.1 w.2.1 v i hg kc.1 k hk (hts _ wl) (fun x h => by rw [hT] at h; exact h) hfin hin hdc hd hna hfi (by rw [fvs_len]; exact (List.getElem?_eq_some_iff.mp hf).1) d (fun H1 locs1 hP hD hS => ?_)
  refine wdS (S := S) hE o.1 (S' := uR S i k (some v1)) ?_ (fun j hj => ce_rows rfl rfl (uR_ne hj)) (wtR w.2.2.2 (fun t ht a ha => by cases ha; exact htk t (by rw [← o.2]; exact ht))) hP hD (fun w1 => K H1 locs1 ls w1 hS h)
  rw [o.2]
  simp only [ce, h11, if_true]
  rw [fvs_set hf (S := S) (x := .ref (b + v1)) (by simp [fv, uR, rv, va_rf]) (fun j t hj => by simp only [fv, uR]; split <;> simp [hj])]
theorem jPutIN (C : CX p s m args meth c b D cy cc own nL ret) (n : Nat) {idx ci i N : Nat} {Cn : String} {T : u_T} {ty : Nat → FieldType} {v1 : Int32} (d : decode cc pc = .ok (.putfield idx, 3)) (hn : pc + 3 = n) (hE : s.heap.size + cells ≤ b + G.2.2) (o : ok G ci i) (kc : KC ci Cn T N ty) (k : Nat) (hk : k < N) (hf : (fk ci)[k]? = some 0) (hT : (T k).1 = Cn) (h11 : ci < 11) (hfin : (T k).2.2.2 = false) {host : String} (wl : Cond.fieldLinkNest own idx Cn (T k).2.1 (T k).2.2.1 host ∈ tables_1) {fty : FieldType} (hd : parseFieldDescriptor (T k).2.2.1 = some fty) (hna : narrow fty (.int v1) = .int v1) (hfi : fits fty (.int v1) = true)  (K : J p l e R s m args below meth c b D cy nL Z cells slots G (uI S i k v1) n lv st) : J p l e R s m args below meth c b D cy nL Z cells slots G S pc lv (.int v1 :: .ref (b + i) :: st) := by
  subst hn
  obtain ⟨hx, hb, hown, hts, hml, hr, hlk, sk, hbs⟩ := C
  intro H locs ls w v h
  have hg := pl_get (b := b) (cy := cy) (S := S) o.1
  rw [o.2] at hg
  simp only [ce, h11, if_true] at hg
  refine va_putN hx hb hts kc.in ty kc.2.2.1 kc.2.2.2 hown sk.1 w.1 w.2.1 v i hg kc.1 k hk (va_Nw.use rfl (sk.2.1 _ wl rfl)) (fun x h => by rw [hT] at h; exact h) hfin hd hna hfi (by rw [fvs_len]; exact (List.getElem?_eq_some_iff.mp hf).1) d (fun H1 locs1 hP hD hS => ?_)
  refine wdS (S := S) hE o.1 (S' := uI S i k v1) ?_ (fun j hj => ce_rows (uI_ne hj) rfl rfl) w.2.2.2 hP hD (fun w1 => K H1 locs1 ls w1 hS h)
  rw [o.2]
  simp only [ce, h11, if_true]
  rw [fvs_set hf (S := S) (x := .int v1) (by simp [fv, uI]) (fun j t hj => by simp only [fv, uI]; split <;> simp [hj])]
theorem jPutJN (C : CX p s m args meth c b D cy cc own nL ret) (n : Nat) {idx ci i N : Nat} {Cn : String} {T : u_T} {ty : Nat → FieldType} {v1 : Int64} (d : decode cc pc = .ok (.putfield idx, 3)) (hn : pc + 3 = n) (hE : s.heap.size + cells ≤ b + G.2.2) (o : ok G ci i) (kc : KC ci Cn T N ty) (k : Nat) (hk : k < N) (hf : (fk ci)[k]? = some 1) (hT : (T k).1 = Cn) (h11 : ci < 11) (hfin : (T k).2.2.2 = false) {host : String} (wl : Cond.fieldLinkNest own idx Cn (T k).2.1 (T k).2.2.1 host ∈ tables_1) {fty : FieldType} (hd : parseFieldDescriptor (T k).2.2.1 = some fty) (hna : narrow fty (.long v1) = .long v1) (hfi : fits fty (.long v1) = true)  (K : J p l e R s m args below meth c b D cy nL Z cells slots G (uJ S i k v1) n lv st) : J p l e R s m args below meth c b D cy nL Z cells slots G S pc lv (.long v1 :: .ref (b + i) :: st) := by
  subst hn
  obtain ⟨hx, hb, hown, hts, hml, hr, hlk, sk, hbs⟩ := C
  intro H locs ls w v h
  have hg := pl_get (b := b) (cy := cy) (S := S) o.1
  rw [o.2] at hg
  simp only [ce, h11, if_true] at hg
  refine va_putN hx hb hts kc.in ty kc.2.2.1 kc.2.2.2 hown sk.1 w.1 w.2.1 v i hg kc.1 k hk (va_Nw.use rfl (sk.2.1 _ wl rfl)) (fun x h => by rw [hT] at h; exact h) hfin hd hna hfi (by rw [fvs_len]; exact (List.getElem?_eq_some_iff.mp hf).1) d (fun H1 locs1 hP hD hS => ?_)
  refine wdS (S := S) hE o.1 (S' := uJ S i k v1) ?_ (fun j hj => ce_rows rfl (uJ_ne hj) rfl) w.2.2.2 hP hD (fun w1 => K H1 locs1 ls w1 hS h)
  rw [o.2]
  simp only [ce, h11, if_true]
  rw [fvs_set hf (S := S) (x := .long v1) (by simp [fv, uJ]) (fun j t hj => by simp only [fv, uJ]; split <;> simp [hj])]
theorem jPutRN (C : CX p s m args meth c b D cy cc own nL ret) (n : Nat) {idx ci i N : Nat} {Cn : String} {T : u_T} {ty : Nat → FieldType} {v1 : Nat} (d : decode cc pc = .ok (.putfield idx, 3)) (hn : pc + 3 = n) (hE : s.heap.size + cells ≤ b + G.2.2) (o : ok G ci i) (kc : KC ci Cn T N ty) (k : Nat) (hk : k < N) (hf : (fk ci)[k]? = some 2) (hT : (T k).1 = Cn) (h11 : ci < 11) (hfin : (T k).2.2.2 = false) {host : String} (wl : Cond.fieldLinkNest own idx Cn (T k).2.1 (T k).2.2.1 host ∈ tables_1) {fty : FieldType} (hd : parseFieldDescriptor (T k).2.2.1 = some fty) (hna : narrow fty (.ref (b + v1)) = .ref (b + v1)) (hfi : fits fty (.ref (b + v1)) = true) (htk : ∀ t, rk ci k = some t → ok G t v1) (K : J p l e R s m args below meth c b D cy nL Z cells slots G (uR S i k (some v1)) n lv st) : J p l e R s m args below meth c b D cy nL Z cells slots G S pc lv (.ref (b + v1) :: .ref (b + i) :: st) := by
  subst hn
  obtain ⟨hx, hb, hown, hts, hml, hr, hlk, sk, hbs⟩ := C
  intro H locs ls w v h
  have hg := pl_get (b := b) (cy := cy) (S := S) o.1
  rw [o.2] at hg
  simp only [ce, h11, if_true] at hg
  refine va_putN hx hb hts kc.in ty kc.2.2.1 kc.2.2.2 hown sk.1 w.1 w.2.1 v i hg kc.1 k hk (va_Nw.use rfl (sk.2.1 _ wl rfl)) (fun x h => by rw [hT] at h; exact h) hfin hd hna hfi (by rw [fvs_len]; exact (List.getElem?_eq_some_iff.mp hf).1) d (fun H1 locs1 hP hD hS => ?_)
  refine wdS (S := S) hE o.1 (S' := uR S i k (some v1)) ?_ (fun j hj => ce_rows rfl rfl (uR_ne hj)) (wtR w.2.2.2 (fun t ht a ha => by cases ha; exact htk t (by rw [← o.2]; exact ht))) hP hD (fun w1 => K H1 locs1 ls w1 hS h)
  rw [o.2]
  simp only [ce, h11, if_true]
  rw [fvs_set hf (S := S) (x := .ref (b + v1)) (by simp [fv, uR, rv, va_rf]) (fun j t hj => by simp only [fv, uR]; split <;> simp [hj])]
theorem jIald (C : CX p s m args meth c b D cy cc own nL ret) (n : Nat) {a : Nat} {i : Int32} (d : decode cc pc = .ok (.iaload, 1)) (hn : pc + 1 = n) (o : ok G 11 a) (hin : vp_in i (G.2.1 a)) (K : J p l e R s m args below meth c b D cy nL Z cells slots G S n lv (.int (S.1 a i.toNatClampNeg) :: st)) : J p l e R s m args below meth c b D cy nL Z cells slots G S pc lv (.int i :: .ref (b + a) :: st) := by
  subst hn
  obtain ⟨hx, hb, hown, hts, hml, hr, hlk, sk, hbs⟩ := C
  intro H locs ls w v h
  have hg := pl_get (b := b) (cy := cy) (S := S) o.1
  rw [o.2] at hg
  exact va_iald hx hb sk.1 w.1 a 0 hg rfl hin d (K H locs ls w v h)
theorem jZald (C : CX p s m args meth c b D cy cc own nL ret) (n : Nat) {a : Nat} {i : Int32} (d : decode cc pc = .ok (.baload, 1)) (hn : pc + 1 = n) (o : ok G 13 a) (hin : vp_in i (G.2.1 a)) (K : J p l e R s m args below meth c b D cy nL Z cells slots G S n lv (.int (S.1 a i.toNatClampNeg) :: st)) : J p l e R s m args below meth c b D cy nL Z cells slots G S pc lv (.int i :: .ref (b + a) :: st) := by
  subst hn
  obtain ⟨hx, hb, hown, hts, hml, hr, hlk, sk, hbs⟩ := C
  intro H locs ls w v h
  have hg := pl_get (b := b) (cy := cy) (S := S) o.1
  rw [o.2] at hg
  exact va_zald hx hb sk.1 w.1 a 2 hg rfl hin d (K H locs ls w v h)
theorem jLald (C : CX p s m args meth c b D cy cc own nL ret) (n : Nat) {a : Nat} {i : Int32} (d : decode cc pc = .ok (.laload, 1)) (hn : pc + 1 = n) (o : ok G 12 a) (hin : vp_in i (G.2.1 a)) (K : J p l e R s m args below meth c b D cy nL Z cells slots G S n lv (.long (S.2.1 a i.toNatClampNeg) :: st)) : J p l e R s m args below meth c b D cy nL Z cells slots G S pc lv (.int i :: .ref (b + a) :: st) := by
  subst hn
  obtain ⟨hx, hb, hown, hts, hml, hr, hlk, sk, hbs⟩ := C
  intro H locs ls w v h
  have hg := pl_get (b := b) (cy := cy) (S := S) o.1
  rw [o.2] at hg
  exact va_lald hx hb sk.1 w.1 a 1 hg rfl hin d (K H locs ls w v h)
theorem jIast (C : CX p s m args meth c b D cy cc own nL ret) (n : Nat) {a : Nat} {i x : Int32} (d : decode cc pc = .ok (.iastore, 1)) (hn : pc + 1 = n) (hE : s.heap.size + cells ≤ b + G.2.2) (o : ok G 11 a) (hin : vp_in i (G.2.1 a)) (K : J p l e R s m args below meth c b D cy nL Z cells slots G (uI S a i.toNatClampNeg x) n lv st) : J p l e R s m args below meth c b D cy nL Z cells slots G S pc lv (.int x :: .int i :: .ref (b + a) :: st) := by
  subst hn
  obtain ⟨hx, hb, hown, hts, hml, hr, hlk, sk, hbs⟩ := C
  intro H locs ls w v h
  have hg := pl_get (b := b) (cy := cy) (S := S) o.1
  rw [o.2] at hg
  refine va_iast hx hb sk.1 w.1 w.2.1 v a 0 hg rfl hin d (fun H1 locs1 hP hD hS => ?_)
  refine wdS (S := S) hE o.1 (S' := uI S a i.toNatClampNeg x) ?_ (fun j hj => ce_rows (uI_ne hj) rfl rfl) w.2.2.2 hP hD (fun w1 => K H1 locs1 ls w1 hS h)
  rw [o.2, ← uI_row]
  rfl
theorem jZast (C : CX p s m args meth c b D cy cc own nL ret) (n : Nat) {a : Nat} {i x : Int32} (d : decode cc pc = .ok (.bastore, 1)) (hn : pc + 1 = n) (hE : s.heap.size + cells ≤ b + G.2.2) (o : ok G 13 a) (hin : vp_in i (G.2.1 a)) (hz : x = 0 ∨ x = 1) (K : J p l e R s m args below meth c b D cy nL Z cells slots G (uI S a i.toNatClampNeg x) n lv st) : J p l e R s m args below meth c b D cy nL Z cells slots G S pc lv (.int x :: .int i :: .ref (b + a) :: st) := by
  subst hn
  obtain ⟨hx, hb, hown, hts, hml, hr, hlk, sk, hbs⟩ := C
  intro H locs ls w v h
  have hg := pl_get (b := b) (cy := cy) (S := S) o.1
  rw [o.2] at hg
  have hnz : vp_nar .boolean x = x := by rcases hz with rfl | rfl <;> decide
  refine va_zast hx hb sk.1 w.1 w.2.1 v a 2 hg rfl hin d (fun H1 locs1 hP hD hS => ?_)
  rw [hnz] at hP hD
  refine wdS (S := S) hE o.1 (S' := uI S a i.toNatClampNeg x) ?_ (fun j hj => ce_rows (uI_ne hj) rfl rfl) w.2.2.2 hP hD (fun w1 => K H1 locs1 ls w1 hS h)
  rw [o.2, ← uI_row]
  rfl
theorem jLast (C : CX p s m args meth c b D cy cc own nL ret) (n : Nat) {a : Nat} {i : Int32} {x : Int64} (d : decode cc pc = .ok (.lastore, 1)) (hn : pc + 1 = n) (hE : s.heap.size + cells ≤ b + G.2.2) (o : ok G 12 a) (hin : vp_in i (G.2.1 a)) (K : J p l e R s m args below meth c b D cy nL Z cells slots G (uJ S a i.toNatClampNeg x) n lv st) : J p l e R s m args below meth c b D cy nL Z cells slots G S pc lv (.long x :: .int i :: .ref (b + a) :: st) := by
  subst hn
  obtain ⟨hx, hb, hown, hts, hml, hr, hlk, sk, hbs⟩ := C
  intro H locs ls w v h
  have hg := pl_get (b := b) (cy := cy) (S := S) o.1
  rw [o.2] at hg
  refine va_last hx hb sk.1 w.1 w.2.1 v a 1 hg rfl hin d (fun H1 locs1 hP hD hS => ?_)
  refine wdS (S := S) hE o.1 (S' := uJ S a i.toNatClampNeg x) ?_ (fun j hj => ce_rows rfl (uJ_ne hj) rfl) w.2.2.2 hP hD (fun w1 => K H1 locs1 ls w1 hS h)
  rw [o.2, ← uJ_row]
  rfl
theorem jAlen11 (C : CX p s m args meth c b D cy cc own nL ret) (n : Nat) {a : Nat} (d : decode cc pc = .ok (.arraylength, 1)) (hn : pc + 1 = n) (o : ok G 11 a) (K : J p l e R s m args below meth c b D cy nL Z cells slots G S n lv (.int (nI (G.2.1 a)) :: st)) : J p l e R s m args below meth c b D cy nL Z cells slots G S pc lv (.ref (b + a) :: st) := by
  subst hn
  obtain ⟨hx, hb, hown, hts, hml, hr, hlk, sk, hbs⟩ := C
  intro H locs ls w v h
  have hg := pl_get (b := b) (cy := cy) (S := S) o.1
  rw [o.2] at hg
  exact va_alen hx hb sk.1 w.1 a 0 hg rfl rfl d (K H locs ls w v h)
theorem jAlen12 (C : CX p s m args meth c b D cy cc own nL ret) (n : Nat) {a : Nat} (d : decode cc pc = .ok (.arraylength, 1)) (hn : pc + 1 = n) (o : ok G 12 a) (K : J p l e R s m args below meth c b D cy nL Z cells slots G S n lv (.int (nI (G.2.1 a)) :: st)) : J p l e R s m args below meth c b D cy nL Z cells slots G S pc lv (.ref (b + a) :: st) := by
  subst hn
  obtain ⟨hx, hb, hown, hts, hml, hr, hlk, sk, hbs⟩ := C
  intro H locs ls w v h
  have hg := pl_get (b := b) (cy := cy) (S := S) o.1
  rw [o.2] at hg
  exact va_alen hx hb sk.1 w.1 a 1 hg rfl rfl d (K H locs ls w v h)
theorem jAlen13 (C : CX p s m args meth c b D cy cc own nL ret) (n : Nat) {a : Nat} (d : decode cc pc = .ok (.arraylength, 1)) (hn : pc + 1 = n) (o : ok G 13 a) (K : J p l e R s m args below meth c b D cy nL Z cells slots G S n lv (.int (nI (G.2.1 a)) :: st)) : J p l e R s m args below meth c b D cy nL Z cells slots G S pc lv (.ref (b + a) :: st) := by
  subst hn
  obtain ⟨hx, hb, hown, hts, hml, hr, hlk, sk, hbs⟩ := C
  intro H locs ls w v h
  have hg := pl_get (b := b) (cy := cy) (S := S) o.1
  rw [o.2] at hg
  exact va_alen hx hb sk.1 w.1 a 2 hg rfl rfl d (K H locs ls w v h)
theorem jAald14 (C : CX p s m args meth c b D cy cc own nL ret) (n : Nat) {a : Nat} {i : Int32} (d : decode cc pc = .ok (.aaload, 1)) (hn : pc + 1 = n) (o : ok G 14 a) (hin : vp_in i (G.2.1 a)) (K : (∀ x, S.2.2 a i.toNatClampNeg = some x → ok G 4 x) → J p l e R s m args below meth c b D cy nL Z cells slots G S n lv (rv b (S.2.2 a i.toNatClampNeg) :: st)) : J p l e R s m args below meth c b D cy nL Z cells slots G S pc lv (.int i :: .ref (b + a) :: st) := by
  subst hn
  obtain ⟨hx, hb, hown, hts, hml, hr, hlk, sk, hbs⟩ := C
  intro H locs ls w v h
  have hg := pl_get (b := b) (cy := cy) (S := S) o.1
  rw [o.2] at hg
  exact va_aldq hx hb sk.1 w.1 a 3 hg rfl hin d (K (fun x hx => w.2.2.2 a o.1 _ 4 (by rw [o.2]; rfl) x hx) H locs ls w v h)
theorem jAast14 (C : CX p s m args meth c b D cy cc own nL ret) (n : Nat) {a : Nat} {i : Int32} {x : Nat} (d : decode cc pc = .ok (.aastore, 1)) (hn : pc + 1 = n) (hE : s.heap.size + cells ≤ b + G.2.2) (o : ok G 14 a) (hin : vp_in i (G.2.1 a)) (ox : ok G 4 x) (K : J p l e R s m args below meth c b D cy nL Z cells slots G (uR S a i.toNatClampNeg (some x)) n lv st) : J p l e R s m args below meth c b D cy nL Z cells slots G S pc lv (.ref (b + x) :: .int i :: .ref (b + a) :: st) := by
  subst hn
  obtain ⟨hx, hb, hown, hts, hml, hr, hlk, sk, hbs⟩ := C
  intro H locs ls w v h
  have hg := pl_get (b := b) (cy := cy) (S := S) o.1
  rw [o.2] at hg
  have hg2 := pl_get (b := b) (cy := cy) (S := S) ox.1
  rw [ox.2] at hg2
  refine va_astq hx hb sk.1 w.1 w.2.1 v a 3 x 4 hg rfl hg2 rfl hin d (fun H1 locs1 hP hD hS => ?_)
  refine wdS (S := S) hE o.1 (S' := uR S a i.toNatClampNeg (some x)) ?_ (fun j hj => ce_rows rfl rfl (uR_ne hj)) (wtR w.2.2.2 (fun t ht y hy => by rw [o.2] at ht; cases ht; cases hy; exact ox)) hP hD (fun w1 => K H1 locs1 ls w1 hS h)
  rw [o.2]
  have e : (fun j => ((uR S a i.toNatClampNeg (some x)).2.2 a j).map (fun i => b + i)) = va_up (fun j => (S.2.2 a j).map (fun i => b + i)) i.toNatClampNeg (some (b + x)) := by
    funext j
    rw [uR_row]
    by_cases hj : j = i.toNatClampNeg <;> simp [va_up, hj]
  rw [← e]
  rfl
theorem jAast14N (C : CX p s m args meth c b D cy cc own nL ret) (n : Nat) {a : Nat} {i : Int32} (d : decode cc pc = .ok (.aastore, 1)) (hn : pc + 1 = n) (hE : s.heap.size + cells ≤ b + G.2.2) (o : ok G 14 a) (hin : vp_in i (G.2.1 a)) (K : J p l e R s m args below meth c b D cy nL Z cells slots G (uR S a i.toNatClampNeg none) n lv st) : J p l e R s m args below meth c b D cy nL Z cells slots G S pc lv (.null :: .int i :: .ref (b + a) :: st) := by
  subst hn
  obtain ⟨hx, hb, hown, hts, hml, hr, hlk, sk, hbs⟩ := C
  intro H locs ls w v h
  have hg := pl_get (b := b) (cy := cy) (S := S) o.1
  rw [o.2] at hg
  refine va_astqN hx hb sk.1 w.1 w.2.1 v a 3 hg rfl hin d (fun H1 locs1 hP hD hS => ?_)
  refine wdS (S := S) hE o.1 (S' := uR S a i.toNatClampNeg none) ?_ (fun j hj => ce_rows rfl rfl (uR_ne hj)) (wtR w.2.2.2 (fun t ht y hy => by cases hy)) hP hD (fun w1 => K H1 locs1 ls w1 hS h)
  rw [o.2]
  have e : (fun j => ((uR S a i.toNatClampNeg none).2.2 a j).map (fun i => b + i)) = va_up (fun j => (S.2.2 a j).map (fun i => b + i)) i.toNatClampNeg none := by
    funext j
    rw [uR_row]
    by_cases hj : j = i.toNatClampNeg <;> simp [va_up, hj]
  rw [← e]
  rfl
theorem jAald15 (C : CX p s m args meth c b D cy cc own nL ret) (n : Nat) {a : Nat} {i : Int32} (d : decode cc pc = .ok (.aaload, 1)) (hn : pc + 1 = n) (o : ok G 15 a) (hin : vp_in i (G.2.1 a)) (K : (∀ x, S.2.2 a i.toNatClampNeg = some x → ok G 7 x) → J p l e R s m args below meth c b D cy nL Z cells slots G S n lv (rv b (S.2.2 a i.toNatClampNeg) :: st)) : J p l e R s m args below meth c b D cy nL Z cells slots G S pc lv (.int i :: .ref (b + a) :: st) := by
  subst hn
  obtain ⟨hx, hb, hown, hts, hml, hr, hlk, sk, hbs⟩ := C
  intro H locs ls w v h
  have hg := pl_get (b := b) (cy := cy) (S := S) o.1
  rw [o.2] at hg
  exact va_aldq hx hb sk.1 w.1 a 4 hg rfl hin d (K (fun x hx => w.2.2.2 a o.1 _ 7 (by rw [o.2]; rfl) x hx) H locs ls w v h)
theorem jAast15 (C : CX p s m args meth c b D cy cc own nL ret) (n : Nat) {a : Nat} {i : Int32} {x : Nat} (d : decode cc pc = .ok (.aastore, 1)) (hn : pc + 1 = n) (hE : s.heap.size + cells ≤ b + G.2.2) (o : ok G 15 a) (hin : vp_in i (G.2.1 a)) (ox : ok G 7 x) (K : J p l e R s m args below meth c b D cy nL Z cells slots G (uR S a i.toNatClampNeg (some x)) n lv st) : J p l e R s m args below meth c b D cy nL Z cells slots G S pc lv (.ref (b + x) :: .int i :: .ref (b + a) :: st) := by
  subst hn
  obtain ⟨hx, hb, hown, hts, hml, hr, hlk, sk, hbs⟩ := C
  intro H locs ls w v h
  have hg := pl_get (b := b) (cy := cy) (S := S) o.1
  rw [o.2] at hg
  have hg2 := pl_get (b := b) (cy := cy) (S := S) ox.1
  rw [ox.2] at hg2
  refine va_astq hx hb sk.1 w.1 w.2.1 v a 4 x 7 hg rfl hg2 rfl hin d (fun H1 locs1 hP hD hS => ?_)
  refine wdS (S := S) hE o.1 (S' := uR S a i.toNatClampNeg (some x)) ?_ (fun j hj => ce_rows rfl rfl (uR_ne hj)) (wtR w.2.2.2 (fun t ht y hy => by rw [o.2] at ht; cases ht; cases hy; exact ox)) hP hD (fun w1 => K H1 locs1 ls w1 hS h)
  rw [o.2]
  have e : (fun j => ((uR S a i.toNatClampNeg (some x)).2.2 a j).map (fun i => b + i)) = va_up (fun j => (S.2.2 a j).map (fun i => b + i)) i.toNatClampNeg (some (b + x)) := by
    funext j
    rw [uR_row]
    by_cases hj : j = i.toNatClampNeg <;> simp [va_up, hj]
  rw [← e]
  rfl
theorem jAast15N (C : CX p s m args meth c b D cy cc own nL ret) (n : Nat) {a : Nat} {i : Int32} (d : decode cc pc = .ok (.aastore, 1)) (hn : pc + 1 = n) (hE : s.heap.size + cells ≤ b + G.2.2) (o : ok G 15 a) (hin : vp_in i (G.2.1 a)) (K : J p l e R s m args below meth c b D cy nL Z cells slots G (uR S a i.toNatClampNeg none) n lv st) : J p l e R s m args below meth c b D cy nL Z cells slots G S pc lv (.null :: .int i :: .ref (b + a) :: st) := by
  subst hn
  obtain ⟨hx, hb, hown, hts, hml, hr, hlk, sk, hbs⟩ := C
  intro H locs ls w v h
  have hg := pl_get (b := b) (cy := cy) (S := S) o.1
  rw [o.2] at hg
  refine va_astqN hx hb sk.1 w.1 w.2.1 v a 4 hg rfl hin d (fun H1 locs1 hP hD hS => ?_)
  refine wdS (S := S) hE o.1 (S' := uR S a i.toNatClampNeg none) ?_ (fun j hj => ce_rows rfl rfl (uR_ne hj)) (wtR w.2.2.2 (fun t ht y hy => by cases hy)) hP hD (fun w1 => K H1 locs1 ls w1 hS h)
  rw [o.2]
  have e : (fun j => ((uR S a i.toNatClampNeg none).2.2 a j).map (fun i => b + i)) = va_up (fun j => (S.2.2 a j).map (fun i => b + i)) i.toNatClampNeg none := by
    funext j
    rw [uR_row]
    by_cases hj : j = i.toNatClampNeg <;> simp [va_up, hj]
  rw [← e]
  rfl
theorem jIdiv (C : CX p s m args meth c b D cy cc own nL ret) (n : Nat) {x y : Int32} (d : decode cc pc = .ok (.idiv, 1)) (hn : pc + 1 = n) (hne : ¬ y = 0) (K : J p l e R s m args below meth c b D cy nL Z cells slots G S n lv (.int (x / y) :: st)) : J p l e R s m args below meth c b D cy nL Z cells slots G S pc lv (.int y :: .int x :: st) := by
  subst hn
  obtain ⟨hx, hb, hown, hts, hml, hr, hlk, sk, hbs⟩ := C
  intro H locs ls w v h
  exact lv_idiv hx hb d hne (K H locs ls w v h)
theorem jIrem (C : CX p s m args meth c b D cy cc own nL ret) (n : Nat) {x y : Int32} (d : decode cc pc = .ok (.irem, 1)) (hn : pc + 1 = n) (hne : ¬ y = 0) (K : J p l e R s m args below meth c b D cy nL Z cells slots G S n lv (.int (x - x / y * y) :: st)) : J p l e R s m args below meth c b D cy nL Z cells slots G S pc lv (.int y :: .int x :: st) := by
  subst hn
  obtain ⟨hx, hb, hown, hts, hml, hr, hlk, sk, hbs⟩ := C
  intro H locs ls w v h
  exact lv_irem hx hb d hne (K H locs ls w v h)
theorem jLdiv (C : CX p s m args meth c b D cy cc own nL ret) (n : Nat) {x y : Int64} (d : decode cc pc = .ok (.ldiv, 1)) (hn : pc + 1 = n) (hne : ¬ y = 0) (K : J p l e R s m args below meth c b D cy nL Z cells slots G S n lv (.long (x / y) :: st)) : J p l e R s m args below meth c b D cy nL Z cells slots G S pc lv (.long y :: .long x :: st) := by
  subst hn
  obtain ⟨hx, hb, hown, hts, hml, hr, hlk, sk, hbs⟩ := C
  intro H locs ls w v h
  exact lv_ldiv hx hb d hne (K H locs ls w v h)
theorem jLrem (C : CX p s m args meth c b D cy cc own nL ret) (n : Nat) {x y : Int64} (d : decode cc pc = .ok (.lrem, 1)) (hn : pc + 1 = n) (hne : ¬ y = 0) (K : J p l e R s m args below meth c b D cy nL Z cells slots G S n lv (.long (x - x / y * y) :: st)) : J p l e R s m args below meth c b D cy nL Z cells slots G S pc lv (.long y :: .long x :: st) := by
  subst hn
  obtain ⟨hx, hb, hown, hts, hml, hr, hlk, sk, hbs⟩ := C
  intro H locs ls w v h
  exact lv_lrem hx hb d hne (K H locs ls w v h)
theorem jIf_eq (C : CX p s m args meth c b D cy cc own nL ret) (n t : Nat) {x : Int32} {off : Int} (d : decode cc pc = .ok (.ifCond .eq off, 3)) (ht : (pc : Int) + off = (t : Int)) (hn : pc + 3 = n) (K1 : x = 0 → J p l e R s m args below meth c b D cy nL Z cells slots G S t lv st) (K2 : ¬ (x = 0) → J p l e R s m args below meth c b D cy nL Z cells slots G S n lv st) : J p l e R s m args below meth c b D cy nL Z cells slots G S pc lv (.int x :: st) := by
  subst hn
  obtain ⟨hx, hb, hown, hts, hml, hr, hlk, sk, hbs⟩ := C
  intro H locs ls w v h
  exact lv_if_eq hx hb d ht (fun q => K1 q H locs ls w v h) (fun q => K2 q H locs ls w v h)
theorem jIcmp_eq (C : CX p s m args meth c b D cy cc own nL ret) (n t : Nat) {x y : Int32} {off : Int} (d : decode cc pc = .ok (.if_icmp .eq off, 3)) (ht : (pc : Int) + off = (t : Int)) (hn : pc + 3 = n) (K1 : x = y → J p l e R s m args below meth c b D cy nL Z cells slots G S t lv st) (K2 : ¬ (x = y) → J p l e R s m args below meth c b D cy nL Z cells slots G S n lv st) : J p l e R s m args below meth c b D cy nL Z cells slots G S pc lv (.int y :: .int x :: st) := by
  subst hn
  obtain ⟨hx, hb, hown, hts, hml, hr, hlk, sk, hbs⟩ := C
  intro H locs ls w v h
  exact lv_icmp_eq hx hb d ht (fun q => K1 q H locs ls w v h) (fun q => K2 q H locs ls w v h)
theorem jIf_ne (C : CX p s m args meth c b D cy cc own nL ret) (n t : Nat) {x : Int32} {off : Int} (d : decode cc pc = .ok (.ifCond .ne off, 3)) (ht : (pc : Int) + off = (t : Int)) (hn : pc + 3 = n) (K1 : ¬ x = 0 → J p l e R s m args below meth c b D cy nL Z cells slots G S t lv st) (K2 : x = 0 → J p l e R s m args below meth c b D cy nL Z cells slots G S n lv st) : J p l e R s m args below meth c b D cy nL Z cells slots G S pc lv (.int x :: st) := by
  subst hn
  obtain ⟨hx, hb, hown, hts, hml, hr, hlk, sk, hbs⟩ := C
  intro H locs ls w v h
  exact lv_if_ne hx hb d ht (fun q => K1 q H locs ls w v h) (fun q => K2 q H locs ls w v h)
theorem jIcmp_ne (C : CX p s m args meth c b D cy cc own nL ret) (n t : Nat) {x y : Int32} {off : Int} (d : decode cc pc = .ok (.if_icmp .ne off, 3)) (ht : (pc : Int) + off = (t : Int)) (hn : pc + 3 = n) (K1 : ¬ x = y → J p l e R s m args below meth c b D cy nL Z cells slots G S t lv st) (K2 : x = y → J p l e R s m args below meth c b D cy nL Z cells slots G S n lv st) : J p l e R s m args below meth c b D cy nL Z cells slots G S pc lv (.int y :: .int x :: st) := by
  subst hn
  obtain ⟨hx, hb, hown, hts, hml, hr, hlk, sk, hbs⟩ := C
  intro H locs ls w v h
  exact lv_icmp_ne hx hb d ht (fun q => K1 q H locs ls w v h) (fun q => K2 q H locs ls w v h)
theorem jIf_lt (C : CX p s m args meth c b D cy cc own nL ret) (n t : Nat) {x : Int32} {off : Int} (d : decode cc pc = .ok (.ifCond .lt off, 3)) (ht : (pc : Int) + off = (t : Int)) (hn : pc + 3 = n) (K1 : x < 0 → J p l e R s m args below meth c b D cy nL Z cells slots G S t lv st) (K2 : ¬ (x < 0) → J p l e R s m args below meth c b D cy nL Z cells slots G S n lv st) : J p l e R s m args below meth c b D cy nL Z cells slots G S pc lv (.int x :: st) := by
  subst hn
  obtain ⟨hx, hb, hown, hts, hml, hr, hlk, sk, hbs⟩ := C
  intro H locs ls w v h
  exact lv_if_lt hx hb d ht (fun q => K1 q H locs ls w v h) (fun q => K2 q H locs ls w v h)
theorem jIcmp_lt (C : CX p s m args meth c b D cy cc own nL ret) (n t : Nat) {x y : Int32} {off : Int} (d : decode cc pc = .ok (.if_icmp .lt off, 3)) (ht : (pc : Int) + off = (t : Int)) (hn : pc + 3 = n) (K1 : x < y → J p l e R s m args below meth c b D cy nL Z cells slots G S t lv st) (K2 : ¬ (x < y) → J p l e R s m args below meth c b D cy nL Z cells slots G S n lv st) : J p l e R s m args below meth c b D cy nL Z cells slots G S pc lv (.int y :: .int x :: st) := by
  subst hn
  obtain ⟨hx, hb, hown, hts, hml, hr, hlk, sk, hbs⟩ := C
  intro H locs ls w v h
  exact lv_icmp_lt hx hb d ht (fun q => K1 q H locs ls w v h) (fun q => K2 q H locs ls w v h)
theorem jIf_ge (C : CX p s m args meth c b D cy cc own nL ret) (n t : Nat) {x : Int32} {off : Int} (d : decode cc pc = .ok (.ifCond .ge off, 3)) (ht : (pc : Int) + off = (t : Int)) (hn : pc + 3 = n) (K1 : 0 ≤ x → J p l e R s m args below meth c b D cy nL Z cells slots G S t lv st) (K2 : ¬ (0 ≤ x) → J p l e R s m args below meth c b D cy nL Z cells slots G S n lv st) : J p l e R s m args below meth c b D cy nL Z cells slots G S pc lv (.int x :: st) := by
  subst hn
  obtain ⟨hx, hb, hown, hts, hml, hr, hlk, sk, hbs⟩ := C
  intro H locs ls w v h
  exact lv_if_ge hx hb d ht (fun q => K1 q H locs ls w v h) (fun q => K2 q H locs ls w v h)
theorem jIcmp_ge (C : CX p s m args meth c b D cy cc own nL ret) (n t : Nat) {x y : Int32} {off : Int} (d : decode cc pc = .ok (.if_icmp .ge off, 3)) (ht : (pc : Int) + off = (t : Int)) (hn : pc + 3 = n) (K1 : y ≤ x → J p l e R s m args below meth c b D cy nL Z cells slots G S t lv st) (K2 : ¬ (y ≤ x) → J p l e R s m args below meth c b D cy nL Z cells slots G S n lv st) : J p l e R s m args below meth c b D cy nL Z cells slots G S pc lv (.int y :: .int x :: st) := by
  subst hn
  obtain ⟨hx, hb, hown, hts, hml, hr, hlk, sk, hbs⟩ := C
  intro H locs ls w v h
  exact lv_icmp_ge hx hb d ht (fun q => K1 q H locs ls w v h) (fun q => K2 q H locs ls w v h)
theorem jIf_gt (C : CX p s m args meth c b D cy cc own nL ret) (n t : Nat) {x : Int32} {off : Int} (d : decode cc pc = .ok (.ifCond .gt off, 3)) (ht : (pc : Int) + off = (t : Int)) (hn : pc + 3 = n) (K1 : 0 < x → J p l e R s m args below meth c b D cy nL Z cells slots G S t lv st) (K2 : ¬ (0 < x) → J p l e R s m args below meth c b D cy nL Z cells slots G S n lv st) : J p l e R s m args below meth c b D cy nL Z cells slots G S pc lv (.int x :: st) := by
  subst hn
  obtain ⟨hx, hb, hown, hts, hml, hr, hlk, sk, hbs⟩ := C
  intro H locs ls w v h
  exact lv_if_gt hx hb d ht (fun q => K1 q H locs ls w v h) (fun q => K2 q H locs ls w v h)
theorem jIcmp_gt (C : CX p s m args meth c b D cy cc own nL ret) (n t : Nat) {x y : Int32} {off : Int} (d : decode cc pc = .ok (.if_icmp .gt off, 3)) (ht : (pc : Int) + off = (t : Int)) (hn : pc + 3 = n) (K1 : y < x → J p l e R s m args below meth c b D cy nL Z cells slots G S t lv st) (K2 : ¬ (y < x) → J p l e R s m args below meth c b D cy nL Z cells slots G S n lv st) : J p l e R s m args below meth c b D cy nL Z cells slots G S pc lv (.int y :: .int x :: st) := by
  subst hn
  obtain ⟨hx, hb, hown, hts, hml, hr, hlk, sk, hbs⟩ := C
  intro H locs ls w v h
  exact lv_icmp_gt hx hb d ht (fun q => K1 q H locs ls w v h) (fun q => K2 q H locs ls w v h)
theorem jIf_le (C : CX p s m args meth c b D cy cc own nL ret) (n t : Nat) {x : Int32} {off : Int} (d : decode cc pc = .ok (.ifCond .le off, 3)) (ht : (pc : Int) + off = (t : Int)) (hn : pc + 3 = n) (K1 : x ≤ 0 → J p l e R s m args below meth c b D cy nL Z cells slots G S t lv st) (K2 : ¬ (x ≤ 0) → J p l e R s m args below meth c b D cy nL Z cells slots G S n lv st) : J p l e R s m args below meth c b D cy nL Z cells slots G S pc lv (.int x :: st) := by
  subst hn
  obtain ⟨hx, hb, hown, hts, hml, hr, hlk, sk, hbs⟩ := C
  intro H locs ls w v h
  exact lv_if_le hx hb d ht (fun q => K1 q H locs ls w v h) (fun q => K2 q H locs ls w v h)
theorem jIcmp_le (C : CX p s m args meth c b D cy cc own nL ret) (n t : Nat) {x y : Int32} {off : Int} (d : decode cc pc = .ok (.if_icmp .le off, 3)) (ht : (pc : Int) + off = (t : Int)) (hn : pc + 3 = n) (K1 : x ≤ y → J p l e R s m args below meth c b D cy nL Z cells slots G S t lv st) (K2 : ¬ (x ≤ y) → J p l e R s m args below meth c b D cy nL Z cells slots G S n lv st) : J p l e R s m args below meth c b D cy nL Z cells slots G S pc lv (.int y :: .int x :: st) := by
  subst hn
  obtain ⟨hx, hb, hown, hts, hml, hr, hlk, sk, hbs⟩ := C
  intro H locs ls w v h
  exact lv_icmp_le hx hb d ht (fun q => K1 q H locs ls w v h) (fun q => K2 q H locs ls w v h)
theorem jGoto (C : CX p s m args meth c b D cy cc own nL ret) (t : Nat) {off : Int} (d : decode cc pc = .ok (.goto off, 3)) (ht : (pc : Int) + off = (t : Int)) (K : J p l e R s m args below meth c b D cy nL Z cells slots G S t lv st) : J p l e R s m args below meth c b D cy nL Z cells slots G S pc lv st := by
  obtain ⟨hx, hb, hown, hts, hml, hr, hlk, sk, hbs⟩ := C
  intro H locs ls w v h
  exact lv_goto hx hb d ht (K H locs ls w v h)
theorem jNull (C : CX p s m args meth c b D cy cc own nL ret) (n : Nat) (d : decode cc pc = .ok (.aconst_null, 1)) (hn : pc + 1 = n) (K : J p l e R s m args below meth c b D cy nL Z cells slots G S n lv (.null :: st)) : J p l e R s m args below meth c b D cy nL Z cells slots G S pc lv st := by
  subst hn
  obtain ⟨hx, hb, hown, hts, hml, hr, hlk, sk, hbs⟩ := C
  intro H locs ls w v h
  exact lv_null hx hb d (K H locs ls w v h)
theorem jIfnn (C : CX p s m args meth c b D cy cc own nL ret) (n t : Nat) {r : Option Nat} {off : Int} (d : decode cc pc = .ok (.ifnonnull off, 3)) (ht : (pc : Int) + off = (t : Int)) (hn : pc + 3 = n) (K1 : ∀ x, r = some x → J p l e R s m args below meth c b D cy nL Z cells slots G S t lv st) (K2 : r = none → J p l e R s m args below meth c b D cy nL Z cells slots G S n lv st) : J p l e R s m args below meth c b D cy nL Z cells slots G S pc lv (rv b r :: st) := by
  subst hn
  obtain ⟨hx, hb, hown, hts, hml, hr, hlk, sk, hbs⟩ := C
  intro H locs ls w v h
  cases r with
  | none => exact lv_ifnonnullN hx hb d (K2 rfl H locs ls w v h)
  | some x => exact lv_ifnonnull hx hb d ht (K1 x rfl H locs ls w v h)
theorem jAloadQ_n (C : CX p s m args meth c b D cy cc own nL ret) (n : Nat) {k : Fin 4} {r : Option Nat} (d : decode cc pc = .ok (.aload_n k, 1)) (hn : pc + 1 = n) (q : Nat) (hq : lv[q]? = some (k.val, rv b r)) (K : J p l e R s m args below meth c b D cy nL Z cells slots G S n lv (rv b r :: st)) : J p l e R s m args below meth c b D cy nL Z cells slots G S pc lv st := by
  subst hn
  obtain ⟨hx, hb, hown, hts, hml, hr, hlk, sk, hbs⟩ := C
  intro H locs ls w v h
  cases r with
  | none => exact lv_aload_nN hx hb d rfl (lv_at h q hq) (K H locs ls w v h)
  | some x => exact lv_aload_n hx hb d rfl (lv_at h q hq) (K H locs ls w v h)
theorem jAloadQ (C : CX p s m args meth c b D cy cc own nL ret) (n : Nat) {k : Nat} {r : Option Nat} (d : decode cc pc = .ok (.aload k, 2)) (hn : pc + 2 = n) (q : Nat) (hq : lv[q]? = some (k, rv b r)) (K : J p l e R s m args below meth c b D cy nL Z cells slots G S n lv (rv b r :: st)) : J p l e R s m args below meth c b D cy nL Z cells slots G S pc lv st := by
  subst hn
  obtain ⟨hx, hb, hown, hts, hml, hr, hlk, sk, hbs⟩ := C
  intro H locs ls w v h
  cases r with
  | none => exact lv_aloadN hx hb d (lv_at h q hq) (K H locs ls w v h)
  | some x => exact lv_aload hx hb d (lv_at h q hq) (K H locs ls w v h)
theorem jAstoreQ_n (C : CX p s m args meth c b D cy cc own nL ret) (n : Nat) {k : Fin 4} {r : Option Nat} (d : decode cc pc = .ok (.astore_n k, 1)) (hn : pc + 1 = n) (hk : k.val < nL) (K : J p l e R s m args below meth c b D cy nL Z cells slots G S n ((k.val, rv b r) :: f1 k.val lv) st) : J p l e R s m args below meth c b D cy nL Z cells slots G S pc lv (rv b r :: st) := by
  subst hn
  obtain ⟨hx, hb, hown, hts, hml, hr, hlk, sk, hbs⟩ := C
  intro H locs ls w v h
  cases r with
  | none => exact lv_astore_nN hx hb d rfl h hk rfl (fun ls h => K H locs ls w v h)
  | some x => exact lv_astore_n hx hb d rfl h hk rfl (fun ls h => K H locs ls w v h)
theorem jLdc (C : CX p s m args meth c b D cy cc own nL ret) (n : Nat) {idx : Nat} {k : Int32} (d : decode cc pc = .ok (.ldc idx, 2)) (hn : pc + 2 = n) (wl : Cond.constant own idx k ∈ gw) (K : J p l e R s m args below meth c b D cy nL Z cells slots G S n lv (.int k :: st)) : J p l e R s m args below meth c b D cy nL Z cells slots G S pc lv st := by
  subst hn
  obtain ⟨hx, hb, hown, hts, hml, hr, hlk, sk, hbs⟩ := C
  intro H locs ls w v h
  exact lv_ldc hx hb hown (hts _ wl) d (K H locs ls w v h)
theorem jLdcw (C : CX p s m args meth c b D cy cc own nL ret) (n : Nat) {idx : Nat} {k : Int32} (d : decode cc pc = .ok (.ldc_w idx, 3)) (hn : pc + 3 = n) (wl : Cond.constant own idx k ∈ gw) (K : J p l e R s m args below meth c b D cy nL Z cells slots G S n lv (.int k :: st)) : J p l e R s m args below meth c b D cy nL Z cells slots G S pc lv st := by
  subst hn
  obtain ⟨hx, hb, hown, hts, hml, hr, hlk, sk, hbs⟩ := C
  intro H locs ls w v h
  exact lv_ldcw hx hb hown (hts _ wl) d (K H locs ls w v h)
theorem jLdc2 (C : CX p s m args meth c b D cy cc own nL ret) (n : Nat) {idx : Nat} {k : Int64} (d : decode cc pc = .ok (.ldc2_w idx, 3)) (hn : pc + 3 = n) (wl : Cond.constantLong own idx k ∈ gw) (K : J p l e R s m args below meth c b D cy nL Z cells slots G S n lv (.long k :: st)) : J p l e R s m args below meth c b D cy nL Z cells slots G S pc lv st := by
  subst hn
  obtain ⟨hx, hb, hown, hts, hml, hr, hlk, sk, hbs⟩ := C
  intro H locs ls w v h
  exact lv_ldc2 hx hb hown (hts _ wl) d (K H locs ls w v h)
theorem jTabIn (C : CX p s m args meth c b D cy cc own nL ret) (t : Nat) {dflt lo hi : Int} {offs : Array Int} {len : Nat} {x : Int32} {off : Int} (k : Int32) (d : decode cc pc = .ok (.tableswitch dflt lo hi offs, len)) (hxk : x = k) (hq : decide (¬ k.toInt < lo) = true ∧ decide (¬ hi < k.toInt) = true ∧ offs[(k.toInt - lo).toNat]? = some off ∧ (pc : Int) + off = (t : Int)) (K : J p l e R s m args below meth c b D cy nL Z cells slots G S t lv st) : J p l e R s m args below meth c b D cy nL Z cells slots G S pc lv (.int x :: st) := by
  subst hxk
  obtain ⟨hx, hb, hown, hts, hml, hr, hlk, sk, hbs⟩ := C
  intro H locs ls w v h
  exact lv_tableIn hx hb d (of_decide_eq_true hq.1) (of_decide_eq_true hq.2.1) hq.2.2.1 hq.2.2.2 (K H locs ls w v h)
theorem jTabOut (C : CX p s m args meth c b D cy cc own nL ret) (t : Nat) {dflt lo hi : Int} {offs : Array Int} {len : Nat} {x : Int32} (d : decode cc pc = .ok (.tableswitch dflt lo hi offs, len)) (ht : (pc : Int) + dflt = (t : Int)) (hq : x.toInt < lo ∨ hi < x.toInt) (K : J p l e R s m args below meth c b D cy nL Z cells slots G S t lv st) : J p l e R s m args below meth c b D cy nL Z cells slots G S pc lv (.int x :: st) := by
  obtain ⟨hx, hb, hown, hts, hml, hr, hlk, sk, hbs⟩ := C
  intro H locs ls w v h
  exact lv_tableOut hx hb d hq ht (K H locs ls w v h)
end JM
theorem it1 {c A B : Prop} [Decidable c] (h : if c then A else B) (hc : c) : A := by rw [if_pos hc] at h; exact h
theorem it2 {c A B : Prop} [Decidable c] (h : if c then A else B) (hc : ¬ c) : B := by rw [if_neg hc] at h; exact h
theorem nbZ {x : Int32} (h : x = 0 ∨ x = 1) : narrow .boolean (.int x) = .int x := by rcases h with rfl | rfl <;> decide
theorem fbZ {x : Int32} (h : x = 0 ∨ x = 1) : fits .boolean (.int x) = true := by rcases h with rfl | rfl <;> decide
