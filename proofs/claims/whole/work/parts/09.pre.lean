/-! default values, array classes, a looser room -/
theorem wa_I : Cond.arrayClass .int ∈ gw := wd_81
theorem wa_J : Cond.arrayClass .long ∈ gw := wd_116
theorem wa_Z : Cond.arrayClass .boolean ∈ gw := wd_1335
theorem dfX0 : ∀ j, j < 8 → defaultValue (tyX0 j) = vp_V ((fk 0).map dz) j := by decide
theorem dfX1 : ∀ j, j < 2 → defaultValue (tyX1 j) = vp_V ((fk 1).map dz) j := by decide
theorem dfX2 : ∀ j, j < 2 → defaultValue (tyX2 j) = vp_V ((fk 2).map dz) j := by decide
theorem dfX4 : ∀ j, j < 12 → defaultValue (tyX4 j) = vp_V ((fk 3).map dz) j := by decide
theorem dfX5 : ∀ j, j < 11 → defaultValue (tyX5 j) = vp_V ((fk 4).map dz) j := by decide
theorem dfX6 : ∀ j, j < 11 → defaultValue (tyX6 j) = vp_V ((fk 5).map dz) j := by decide
theorem dfX7 : ∀ j, j < 1 → defaultValue (tyX7 j) = vp_V ((fk 6).map dz) j := by decide
theorem dfX8 : ∀ j, j < 7 → defaultValue (tyX8 j) = vp_V ((fk 7).map dz) j := by decide
theorem dfX9 : ∀ j, j < 3 → defaultValue (tyX9 j) = vp_V ((fk 8).map dz) j := by decide
theorem dfX10 : ∀ j, j < 13 → defaultValue (tyX10 j) = vp_V ((fk 9).map dz) j := by decide
theorem dfX11 : ∀ j, j < 60 → defaultValue (tyX11 j) = vp_V ((fk 10).map dz) j := by decide
theorem jWid {p : Program} {l : Launch} {e : Env} {R : Room} {s : State} {m : MethodId} {args : Array Value} {below : List Frame} {meth : Method} {c : Code} {b : Nat} {D : va_G} {cy : Nat → ClassId} {nL : Nat} {Z : State → Prop} {cells slots : Nat} {G : Gm} {S : St} {pc : Nat} {lv : List (Nat × Value)} {st : List Value} {k n : Nat} (h1 : cells ≤ k) (h2 : slots ≤ n) (K : J p l e R s m args below meth c b D cy nL Z k n G S pc lv st) : J p l e R s m args below meth c b D cy nL Z cells slots G S pc lv st := fun H locs ls w v h => W.widen h1 h2 (K H locs ls w v h)
def mo (i : Int32) : Int32 := ([999, 10, 9, 255] : List Int32).getD i.toNatClampNeg 0
def chS (i : Int32) : Int32 := byS.getD i.toNatClampNeg 0
section JX
variable {p : Program} {l : Launch} {e : Env} {R : Room} {s : State} {m : MethodId} {args : Array Value} {below : List Frame} {meth : Method} {c : Code}
variable {b : Nat} {D : va_G} {cy : Nat → ClassId} {cc : ByteArray} {own : String} {nL : Nat} {ret : Option FieldType} {Z : State → Prop} {cells slots : Nat} {G : Gm} {S : St} {pc : Nat} {lv : List (Nat × Value)} {st : List Value}
theorem jAald16 (C : CX p s m args meth c b D cy cc own nL ret) (n : Nat) {a x : Nat} {i : Int32} (d : decode cc pc = .ok (.aaload, 1)) (hn : pc + 1 = n) (o : ok G 16 a) (hin : vp_in i (G.2.1 a)) (hs : S.2.2 a i.toNatClampNeg = some x) (K : ok G 11 x → J p l e R s m args below meth c b D cy nL Z cells slots G S n lv (.ref (b + x) :: st)) : J p l e R s m args below meth c b D cy nL Z cells slots G S pc lv (.int i :: .ref (b + a) :: st) := by
  subst hn
  obtain ⟨hx, hb, hown, hts, hml, hr, hlk, sk, hbs⟩ := C
  intro H locs ls w v h
  have hg := pl_get (b := b) (cy := cy) (S := S) o.1
  rw [o.2] at hg
  have hlt : i.toNatClampNeg < G.2.1 a := Nat.not_le.mp fun q => hin (Or.inr q)
  exact W.aald (v := .ref (b + x)) (ty := .array .int) hx hb (w.1 a _ hg) ((sk.1.2 5 _ rfl).1 _ (fun j => va_rf ((S.2.2 a j).map (fun i => b + i)))) rfl (fun q => by cases q) (by show ¬ (i < 0 ∨ (arrV _ _ _).slots.size ≤ _); rw [arrV_size]; exact hin) (by show (arrV _ _ _).slots[_]? = _; rw [arrV_read _ _ hlt]; show some (va_rf ((S.2.2 a i.toNatClampNeg).map (fun i => b + i))) = _; rw [hs]; rfl) rfl rfl d (K (w.2.2.2 a o.1 _ 11 (by rw [o.2]; rfl) x hs) H locs ls w v h)
theorem jGetsT (C : CX p s m args meth c b D cy cc own nL ret) (n : Nat) {idx : Nat} (d : decode cc pc = .ok (.getstatic idx, 3)) (hn : pc + 3 = n) (wl : Cond.fieldLink own idx "SinLenses" "MOST_OF_TERMS" "[I" ∈ gw) (K : J p l e R s m args below meth c b D cy nL Z cells slots G S n lv (.ref (cy 100) :: st)) : J p l e R s m args below meth c b D cy nL Z cells slots G S pc lv st := by
  subst hn
  obtain ⟨hx, hb, hown, hts, hml, hr, hlk, sk, hbs⟩ := C
  intro H locs ls w v h
  exact va_gets hx hb sk.2.2.2.2.1.1 v hown (hts _ wl) (fun _ h => h) d (K H locs ls w v h)
theorem jTald (C : CX p s m args meth c b D cy cc own nL ret) (n : Nat) {i : Int32} (d : decode cc pc = .ok (.iaload, 1)) (hn : pc + 1 = n) (hin : vp_in i 4) (K : J p l e R s m args below meth c b D cy nL Z cells slots G S n lv (.int (mo i) :: st)) : J p l e R s m args below meth c b D cy nL Z cells slots G S pc lv (.int i :: .ref (cy 100) :: st) := by
  subst hn
  obtain ⟨hx, hb, hown, hts, hml, hr, hlk, sk, hbs⟩ := C
  intro H locs ls w v h
  exact va_ti hx hb sk.2.2.2.2.1.2.1 v hin rfl d (K H locs ls w v h)
end JX
/-! new int[5][32] -/
def gM (G : Gm) : Gm := (fun i => if i = G.2.2 then 16 else if G.2.2 < i ∧ i ≤ G.2.2 + 5 then 11 else G.1 i, fun i => if i = G.2.2 then 5 else if G.2.2 < i ∧ i ≤ G.2.2 + 5 then 32 else G.2.1 i, G.2.2 + 6)
def sM (S : St) (n : Nat) : St := (fun i => if n ≤ i ∧ i ≤ n + 5 then (fun _ => 0) else S.1 i, fun i => if n ≤ i ∧ i ≤ n + 5 then (fun _ => 0) else S.2.1 i, fun i => if i = n then (fun j => if j < 5 then some (n + 1 + j) else none) else if n < i ∧ i ≤ n + 5 then (fun _ => none) else S.2.2 i)
theorem ext_mna {G : Gm} : ext G (gM G) := ⟨by show G.2.2 ≤ G.2.2 + 6; omega, fun i hi => by
  have h1 : ¬ i = G.2.2 := by omega
  have h2 : ¬ (G.2.2 < i ∧ i ≤ G.2.2 + 5) := by omega
  simp only [gM, if_neg h1, if_neg h2, and_self]⟩
theorem ok_mna {G : Gm} : ok (gM G) 16 G.2.2 := ⟨by show G.2.2 < G.2.2 + 6; omega, by simp [gM]⟩
theorem wt_mna {G : Gm} {S : St} (h : Wt G S) : Wt (gM G) (sM S G.2.2) := by
  intro i hi j t ht a ha
  have hi : i < G.2.2 + 6 := hi
  by_cases e : i = G.2.2
  · subst e
    simp only [gM, if_true] at ht
    simp only [sM, if_true] at ha
    have ht : t = 11 := by cases ht; rfl
    subst ht
    by_cases hj : j < 5
    · rw [if_pos hj] at ha
      cases ha
      refine ⟨by show _ < G.2.2 + 6; omega, ?_⟩
      have h1 : ¬ G.2.2 + 1 + j = G.2.2 := by omega
      have h2 : G.2.2 < G.2.2 + 1 + j ∧ G.2.2 + 1 + j ≤ G.2.2 + 5 := by omega
      simp only [gM, if_neg h1, if_pos h2]
    · rw [if_neg hj] at ha
      cases ha
  · by_cases e2 : G.2.2 < i ∧ i ≤ G.2.2 + 5
    · simp only [sM, if_neg e, if_pos e2] at ha
      cases ha
    · have hi' : i < G.2.2 := by omega
      simp only [gM, if_neg e, if_neg e2] at ht
      simp only [sM, if_neg e, if_neg e2] at ha
      exact ext_mna.ok (h i hi' j t ht a ha)
theorem pl_D {b : Nat} {cy : Nat → ClassId} {G : Gm} {S : St} : va_D (fun q => b ≤ q) (pl b cy G S) := by
  have key : ∀ k q, (pl b cy G S)[k]? = some q → q.1 = b + k := by
    intro k q h
    by_cases hk : k < G.2.2
    · rw [pl_get hk] at h
      cases h
      rfl
    · rw [List.getElem?_eq_none (by rw [pl_len]; omega)] at h
      cases h
  exact ⟨fun i j p q hi hj h => by rw [key i p hi, key j q hj] at h; omega, fun k q h => by show b ≤ q.1; rw [key k q h]; omega⟩
