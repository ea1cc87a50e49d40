/-! fields and arrays -/
def uI (S : St) (i j : Nat) (v : Int32) : St := (fun a k => if a = i ∧ k = j then v else S.1 a k, S.2)
def uJ (S : St) (i j : Nat) (v : Int64) : St := (S.1, fun a k => if a = i ∧ k = j then v else S.2.1 a k, S.2.2)
def uR (S : St) (i j : Nat) (v : Option Nat) : St := (S.1, S.2.1, fun a k => if a = i ∧ k = j then v else S.2.2 a k)
theorem ce_rows {b : Nat} {cy : Nat → ClassId} {k n : Nat} {S S' : St} {i : Nat} (h1 : S'.1 i = S.1 i) (h2 : S'.2.1 i = S.2.1 i) (h3 : S'.2.2 i = S.2.2 i) : ce b cy k n S' i = ce b cy k n S i := by
  have e : ∀ j t, fv b S' i j t = fv b S i j t := by
    intro j t
    unfold fv
    rw [h1, h2, h3]
  unfold ce fvs
  simp only [e, h1, h2, h3]
theorem uI_ne {S : St} {i j : Nat} {v : Int32} {a : Nat} (h : a ≠ i) : (uI S i j v).1 a = S.1 a := by funext k; simp [uI, h]
theorem uJ_ne {S : St} {i j : Nat} {v : Int64} {a : Nat} (h : a ≠ i) : (uJ S i j v).2.1 a = S.2.1 a := by funext k; simp [uJ, h]
theorem uR_ne {S : St} {i j : Nat} {v : Option Nat} {a : Nat} (h : a ≠ i) : (uR S i j v).2.2 a = S.2.2 a := by funext k; simp [uR, h]
theorem uI_row {S : St} {i j : Nat} {v : Int32} : (uI S i j v).1 i = upd (S.1 i) j v := by funext k; simp [uI, upd]
theorem uJ_row {S : St} {i j : Nat} {v : Int64} : (uJ S i j v).2.1 i = vp_updL (S.2.1 i) j v := by funext k; simp [uJ, vp_updL]
theorem uR_row {S : St} {i j : Nat} {v : Option Nat} : (uR S i j v).2.2 i = va_up (S.2.2 i) j v := by funext k; simp [uR, va_up]
theorem fvs_get {b : Nat} {S : St} {i k j t : Nat} (h : (fk k)[j]? = some t) : (fvs b S i k)[j]? = some (fv b S i j t) := by simp [fvs, List.getElem?_mapIdx, h]
theorem fvs_len {b : Nat} {S : St} {i k : Nat} : (fvs b S i k).length = (fk k).length := by simp [fvs]
theorem fvs_set {b : Nat} {S S' : St} {i k j t : Nat} {x : Value} (h : (fk k)[j]? = some t) (hx : fv b S' i j t = x) (ho : ∀ j' t', j' ≠ j → fv b S' i j' t' = fv b S i j' t') : fvs b S' i k = (fvs b S i k).set j x := by
  apply List.ext_getElem?
  intro q
  by_cases e : q = j
  · subst e
    have hl : q < (fvs b S i k).length := by rw [fvs_len]; exact (List.getElem?_eq_some_iff.mp h).1
    rw [List.getElem?_set_self hl, fvs_get h, hx]
  · rw [List.getElem?_set_ne (Ne.symm e)]
    simp only [fvs, List.getElem?_mapIdx]
    cases hq : (fk k)[q]? with
    | none => rfl
    | some t' => simp [ho q t' e]
section JM
variable {p : Program} {l : Launch} {e : Env} {R : Room} {s : State} {m : MethodId} {args : Array Value} {below : List Frame} {meth : Method} {c : Code}
variable {b : Nat} {D : va_G} {cy : Nat → ClassId} {cc : ByteArray} {own : String} {nL : Nat} {ret : Option FieldType} {Z : State → Prop} {cells slots : Nat} {G : Gm} {S : St} {pc : Nat} {lv : List (Nat × Value)} {st : List Value}
/-- behind a store -/
theorem wdS {H1 : Heap} {locs : List Loc} {g : JFrame} {S' : St} {i : Nat} {x : va_E} (hE : s.heap.size + cells ≤ b + G.2.2) (hi : i < G.2.2) (hx : ce b cy (G.1 i) (G.2.1 i) S' i = x) (ho : ∀ j, j ≠ i → ce b cy (G.1 j) (G.2.1 j) S' j = ce b cy (G.1 j) (G.2.1 j) S j) (hw : Wt G S') (hP : va_P D vwCl ((pl b cy G S).set i (b + i, x)) H1) (hD : va_D (fun q => b ≤ q) ((pl b cy G S).set i (b + i, x))) (K : Wd b D cy G S' H1 → W p l e R s m args below meth c H1 locs cells slots Z g) : W p l e R s m args below meth c H1 locs cells slots Z g := by
  rw [pl_set hi hx ho] at hP hD
  refine jSize (fun hz => K ⟨hP, hD, ?_, hw⟩)
  have h1 := (hP (G.2.2 - 1) _ (pl_get (by omega))).lt
  simp only at h1
  omega
theorem jGetI (C : CX p s m args meth c b D cy cc own nL ret) (n : Nat) {idx ci i N : Nat} {Cn : String} {T : u_T} {ty : Nat → FieldType} (d : decode cc pc = .ok (.getfield idx, 3)) (hn : pc + 3 = n) (o : ok G ci i) (kc : KC ci Cn T N ty) (k : Nat) (hk : k < N) (hf : (fk ci)[k]? = some 0) (hT : (T k).1 = Cn) (h11 : ci < 11) (wl : Cond.fieldLink own idx Cn (T k).2.1 (T k).2.2.1 ∈ gw) (K : J p l e R s m args below meth c b D cy nL Z cells slots G S n lv (.int (S.1 i k) :: st)) : J p l e R s m args below meth c b D cy nL Z cells slots G S pc lv (.ref (b + i) :: st) := by
  subst hn
  obtain ⟨hx, hb, hown, hts, hml, hr, hlk, sk, hbs⟩ := C
  intro H locs ls w v h
  have hg := pl_get (b := b) (cy := cy) (S := S) o.1
  rw [o.2] at hg
  simp only [ce, h11, if_true] at hg
  exact va_get hx hb hts kc.in hown sk.1 w.1 i hg kc.1 k hk (hts _ wl) (fun x h => by rw [hT] at h; exact h) (fvs_get hf) d (K H locs ls w v h)
end JM
