-- needs: 200 201 202 203 204 210 211 220 221 222 223 224 225 226 227 228
/-! What the class and the reference both hold. -/
abbrev Rw : Type := Nat → Nat
abbrev Im : Type := Nat → Option (Rw × (Nat → Lw))
abbrev Un : Type := Nat → Nat × Rw
def TRow (f : Nat → Int32) (r : Nat) (x : Nat × Rw) : Prop := (∀ i, i < 24 → f (32 * r + i) = nI (x.2 (8 + i))) ∧ (∀ i, i < 6 → f (32 * r + 24 + i) = nI (x.2 (32 + i))) ∧ f (32 * r + 30) = nI (x.2 4) ∧ f (32 * r + 31) = nI x.1
def TrlC (S : St) (t n : Nat) (u : Un) : Prop := S.1 t 2 = nI n ∧ ∃ nx, nx < 16 ∧ S.1 t 1 = nI nx ∧ ∀ k, k < n → TRow (S.1 (t + 1)) ((nx + 15 - k) % 16) (u k)
def MonC (S : St) (m : Rw) : Prop := S.1 9 0 = nI (m 0) ∧ (∀ i, i < 24 → S.1 10 i = nI (m (8 + i))) ∧ (∀ i, i < 6 → S.1 11 i = nI (m (32 + i)))
/-- texts lie off the images -/
def Dj (R : Nat → Nat → Option Nat) (t : Nat) : Prop := ∀ k q, R 17 k = some q → t + 5 < q ∨ q + 7 < t
def LwD (G : Gm) (S : St) (p : Nat) (a : Rw) (L : Nat → Lw) : Prop := LwC G S p a L ∧ ∀ k, k < a 2 → ∀ t, S.2.2 (p + 7) k = some t → Dj S.2.2 t
def ImgC (G : Gm) (S : St) (I : Im) : Prop := (∀ k, k < 2 → (I k = none ∧ S.2.2 17 k = none) ∨ ∃ q b M, I k = some (b, M) ∧ S.2.2 17 k = some q ∧ 121 ≤ q ∧ q + 7 < G.2.2 ∧ G.1 q = 4 ∧ PSh G S.2.2 q ∧ ParC S q b ∧ LwD G S q b M) ∧ (∀ q0 q1, S.2.2 17 0 = some q0 → S.2.2 17 1 = some q1 → q0 + 7 < q1 ∨ q1 + 7 < q0) ∧ (∀ k, 2 ≤ k → S.2.2 17 k = none)
def TapC (S : St) (T : Nat → Nat) (tn : Nat) : Prop := S.1 75 1 = nI tn ∧ ∀ i, i < tn → S.1 76 i = nI (T i)
def FlC (S : St) (fl : Nat → Int32) : Prop := S.1 0 10 = fl 0 ∧ S.1 0 11 = fl 1 ∧ S.1 0 12 = fl 2 ∧ S.1 75 9 = fl 3 ∧ ∀ k, k < 7 → S.1 86 k = fl (4 + k)
/-- rows of lenses that come to nothing -/
def idB (n d : Nat) : Bool := (List.range 256).all fun x => ((List.range n).foldl (fun v k => bd (d / 10 ^ (n - 1 - k) % 10) v) x) == x
def idD : Nat → Nat → Nat
  | 0, _ => 0
  | n + 1, c => 10 * idD n (c / 7) + (c % 7 + 1)
def idL (n : Nat) : List Nat := ((List.range (7 ^ n)).map (idD n)).filter (idB n)
def IdlC (S : St) : Prop := ∀ n, 1 ≤ n → n ≤ 4 → S.1 73 n = -1 ∨ (S.1 73 n = nI (idL n).length ∧ ∀ i, i < (idL n).length → S.1 (68 + n) i = nI ((idL n).getD i 0))
def Cls (G : Gm) (S : St) (a : Rw) (L : Nat → Lw) (I : Im) (un : Nat) (u : Un) (T : Nat → Nat) (tn : Nat) (fl : Nat → Int32) (m : Rw) : Prop :=
  ShC G S.2.2 ∧ ParC S 1 a ∧ LwD G S 1 a L ∧ MonC S m ∧ ImgC G S I ∧ TrlC S 18 un u ∧ TapC S T tn ∧ FlC S fl ∧ IdlC S
def SnR (f : Nat → Int32) (x : Rw) : Prop := (∀ i, i < 4 → f i = nI (x (4 + i))) ∧ (∀ i, i < 24 → f (4 + i) = nI (x (8 + i))) ∧ (∀ j, j < 6 → f (28 + 5 * j) = nI (gn (x (32 + j)))) ∧ (∀ j, j < 6 → ∀ k, k < 4 → f (29 + 5 * j + k) = nI (gk (x (32 + j)) k))
def UnR (S : St) (n : Nat) (u : Un) : Prop := S.1 87 9 = nI n ∧ ∀ k, k < n → S.1 94 (n - 1 - k) = nI (u k).1 ∧ SnR (fun i => S.1 93 (58 * (n - 1 - k) + i)) (u k).2
def ImgR (S : St) (I : Im) : Prop := ∀ k, k < 2 → (I k = none ∧ S.1 92 k = 0) ∨ ∃ b M, I k = some (b, M) ∧ S.1 92 k = 1 ∧ RowR (fun i => S.1 91 (5485 * k + i)) b ∧ LwR (fun i => S.1 91 (5485 * k + i)) b M
def TapR (S : St) (T : Nat → Nat) (tn : Nat) : Prop := S.1 87 14 = nI tn ∧ ∀ i, i < tn → S.1 97 i = nI (T i)
def FlR (S : St) (fl : Nat → Int32) : Prop := S.1 87 1 = fl 0 ∧ S.1 87 12 = fl 1 ∧ S.1 87 55 = fl 2 ∧ S.1 87 19 = fl 3 ∧ ∀ k, k < 7 → S.1 88 k = fl (4 + k)
def MonR (S : St) (m : Rw) : Prop := (S.1 87 59 = -1 ∧ m 0 = 0) ∨ (S.1 87 59 = nI (m 0) ∧ (∀ i, i < 24 → S.1 120 (4 + i) = nI (m (8 + i))) ∧ (∀ j, j < 6 → S.1 120 (28 + 5 * j) = nI (gn (m (32 + j)))))
def wdW : List Int64 := [542723566, 370116, 19758, 632275, 20225300, 12596, 6605428, 4153, 441828]
def wdO : List Int64 := [4153, 146885, 404362868, 20026821, 632275, 20225300, 146611]
def wdH : List Int64 := [254064787, 7945971, 146611, 67155]
def wdA : List Int64 := [19758, 646192, 7939524, 3554952, 525939]
def CoR (S : St) : Prop := (∀ k, k < 9 → S.2.1 103 k = wdW.getD k 0) ∧ (∀ k, k < 7 → S.2.1 104 k = wdO.getD k 0) ∧ (∀ k, k < 4 → S.2.1 105 k = wdH.getD k 0) ∧ (∀ k, k < 5 → S.2.1 118 k = wdA.getD k 0)
def Ref (G : Gm) (S : St) (a : Rw) (L : Nat → Lw) (I : Im) (un : Nat) (u : Un) (T : Nat → Nat) (tn : Nat) (fl : Nat → Int32) (m : Rw) : Prop :=
  (ShR G S.2.2 ∧ RowR (S.1 90) a ∧ Made (S.1 89) ∧ LwR (S.1 90) a L ∧ S.1 87 21 = 0) ∧ ImgR S I ∧ UnR S un u ∧ TapR S T tn ∧ FlR S fl ∧ MonR S m ∧ CoR S
def VaU (a : Rw) (x : Nat × Rw) : Prop := Va x.2 ∧ x.1 ≤ 4 ∧ x.2 0 = a 0 ∧ x.2 5 = a 5 ∧ x.2 6 = a 6 ∧ x.2 7 = a 7
def Vld (a : Rw) (I : Im) (un : Nat) (u : Un) (T : Nat → Nat) (tn : Nat) (m : Rw) : Prop :=
  Va a ∧ (∀ k b M, I k = some (b, M) → Va b) ∧ un ≤ 16 ∧ (∀ k, k < un → VaU a (u k)) ∧ tn ≤ 400 ∧ (∀ i, i < tn → T i ≤ 255) ∧ m 0 ≤ 6 ∧ (∀ i, i < 24 → m (8 + i) ≤ 8) ∧ (∀ i, i < 6 → vG (m (32 + i)))
/-- what the reference's cells are -/
def rfI (i : Nat) : Prop := 87 ≤ i ∧ i ≤ 120
/-- the class does not touch the reference's cells, nor the reference the class's -/
def OffR (S S' : St) : Prop := ∀ i, 87 ≤ i → i ≤ 120 → S'.1 i = S.1 i ∧ S'.2.1 i = S.2.1 i ∧ S'.2.2 i = S.2.2 i
def OffC (S S' : St) : Prop := S'.2.2 = S.2.2 ∧ ∀ i, (i < 87 ∨ 120 < i) → S'.1 i = S.1 i ∧ S'.2.1 i = S.2.1 i
theorem OffR.refl (S : St) : OffR S S := fun _ _ _ => ⟨rfl, rfl, rfl⟩
theorem OffR.trans {S S' S'' : St} (h : OffR S S') (h' : OffR S' S'') : OffR S S'' := fun i h1 h2 => ⟨(h' i h1 h2).1.trans (h i h1 h2).1, (h' i h1 h2).2.1.trans (h i h1 h2).2.1, (h' i h1 h2).2.2.trans (h i h1 h2).2.2⟩
theorem OffC.refl (S : St) : OffC S S := ⟨rfl, fun _ _ => ⟨rfl, rfl⟩⟩
theorem OffC.trans {S S' S'' : St} (h : OffC S S') (h' : OffC S' S'') : OffC S S'' := ⟨h'.1.trans h.1, fun i hi => ⟨(h'.2 i hi).1.trans (h.2 i hi).1, (h'.2 i hi).2.trans (h.2 i hi).2⟩⟩
theorem Fr.offR {X : Nat → Prop} {S S' : St} (h : Fr X S S') (hX : ∀ i, X i → i < 87 ∨ 120 < i) : OffR S S' := fun i h1 h2 => ⟨(h.2 i (fun hx => by have := hX i hx; omega)).1, (h.2 i (fun hx => by have := hX i hx; omega)).2, by rw [h.1]⟩
theorem FrR.offC {S S' : St} (h : FrR S S') : OffC S S' := ⟨h.1, fun i hi => ⟨h.2.1 i (by omega), h.2.2.2.1 i (by omega) (by omega) (by omega)⟩⟩
theorem OffR.uI {S S' : St} {i j : Nat} {v : Int32} (h : OffR S S') (hi : i < 87 ∨ 120 < i) : OffR S (uI S' i j v) := fun k h1 h2 => ⟨(uI_n S' i j v (by omega)).trans (h k h1 h2).1, (h k h1 h2).2.1, (h k h1 h2).2.2⟩
theorem OffC.uI {S S' : St} {i j : Nat} {v : Int32} (h : OffC S S') (h1 : 87 ≤ i) (h2 : i ≤ 120) : OffC S (uI S' i j v) := ⟨h.1, fun k hk => ⟨(uI_n S' i j v (by omega)).trans (h.2 k hk).1, (h.2 k hk).2⟩⟩
theorem OffC.uJ {S S' : St} {i j : Nat} {v : Int64} (h : OffC S S') (h1 : 87 ≤ i) (h2 : i ≤ 120) : OffC S (uJ S' i j v) := ⟨h.1, fun k hk => ⟨(h.2 k hk).1, (uJ_n S' i j v (by omega)).trans (h.2 k hk).2⟩⟩
section
variable {G : Gm} {S S' : St} {a m : Rw} {L : Nat → Lw} {I : Im} {un tn : Nat} {u : Un} {T : Nat → Nat} {fl : Nat → Int32}
theorem RowR.eq {f : Nat → Int32} {b : Rw} (h : RowR f a) (e : eq60 a b) : RowR f b := by
  obtain ⟨h0, h1, h2, h3, h4, h5, h6, h7, h8, h9, h10⟩ := h
  refine ⟨?_, ?_, ?_, ?_, fun k hk => ?_, fun k hk => ?_, fun k hk => ?_, fun k hk l hl => ?_, fun k hk => ?_, fun k hk => ?_, fun k hk => ?_⟩
  · rw [← e _ (by omega)]; exact h0
  · rw [← e _ (by omega)]; exact h1
  · rw [← e _ (by omega)]; exact h2
  · rw [← e _ (by omega)]; exact h3
  · rw [← e _ (by omega)]; exact h4 k hk
  · rw [← e _ (by omega)]; exact h5 k hk
  · rw [← e _ (by omega)]; exact h6 k hk
  · rw [← e _ (by omega)]; exact h7 k hk l hl
  · rw [← e _ (by omega)]; exact h8 k hk
  · rw [← e _ (by omega)]; exact h9 k hk
  · rw [← e _ (by omega)]; exact h10 k hk
theorem TrlC.ag {t : Nat} (h : TrlC S t un u) (h0 : S'.1 t = S.1 t) (h1 : S'.1 (t + 1) = S.1 (t + 1)) : TrlC S' t un u := by
  unfold TrlC; rw [h0, h1]; exact h
theorem MonC.ag (h : MonC S m) (h9 : S'.1 9 = S.1 9) (h10 : S'.1 10 = S.1 10) (h11 : S'.1 11 = S.1 11) : MonC S' m := by
  unfold MonC; rw [h9, h10, h11]; exact h
theorem LwD.ag {p : Nat} (h : LwD G S p a L) (hM : ∀ i, 121 ≤ i → S'.1 i = S.1 i) (hR : S'.2.2 = S.2.2) : LwD G S' p a L :=
  ⟨h.1.fr hM hR, fun k hk t ht => by rw [hR] at ht ⊢; exact h.2 k hk t ht⟩
theorem ImgC.ag (h : ImgC G S I) (hM : ∀ i, 121 ≤ i → S'.1 i = S.1 i) (hR : S'.2.2 = S.2.2) : ImgC G S' I := by
  obtain ⟨h1, h2, h3⟩ := h
  refine ⟨fun k hk => ?_, by rw [hR]; exact h2, by rw [hR]; exact h3⟩
  rcases h1 k hk with ⟨e1, e2⟩ | ⟨q, b, M, e1, e2, e3, e4, e5, e6, e7, e8⟩
  · exact .inl ⟨e1, by rw [hR]; exact e2⟩
  · exact .inr ⟨q, b, M, e1, by rw [hR]; exact e2, e3, e4, e5, by rw [hR]; exact e6, e7.ag (fun i h _ => hM i (by omega)), e8.ag hM hR⟩
theorem TapC.ag (h : TapC S T tn) (h1 : S'.1 75 1 = S.1 75 1) (h2 : S'.1 76 = S.1 76) : TapC S' T tn := by
  unfold TapC; rw [h1, h2]; exact h
theorem FlC.ag (h : FlC S fl) (h0 : S'.1 0 = S.1 0) (h1 : S'.1 75 9 = S.1 75 9) (h2 : S'.1 86 = S.1 86) : FlC S' fl := by
  unfold FlC; rw [h0, h1, h2]; exact h
theorem IdlC.ag (h : IdlC S) (hM : ∀ i, 68 ≤ i → i ≤ 73 → S'.1 i = S.1 i) : IdlC S' := by
  intro n h1 h2
  rw [hM 73 (by omega) (by omega), hM (68 + n) (by omega) (by omega)]; exact h n h1 h2
/-- the class's cells that count -/
def rlC (i : Nat) : Prop := i ≤ 7 ∨ i = 9 ∨ i = 10 ∨ i = 11 ∨ i = 18 ∨ i = 19 ∨ i = 75 ∨ i = 76 ∨ i = 86 ∨ (68 ≤ i ∧ i ≤ 73) ∨ 121 ≤ i
theorem Cls.ag (h : Cls G S a L I un u T tn fl m) (hM : ∀ i, rlC i → S'.1 i = S.1 i) (hR : S'.2.2 = S.2.2) : Cls G S' a L I un u T tn fl m := by
  obtain ⟨h1, h2, h3, h4, h5, h6, h7, h8, h9⟩ := h
  unfold rlC at hM
  exact ⟨by rw [hR]; exact h1, h2.ag (fun i _ _ => hM i (by omega)), h3.ag (fun i _ => hM i (by omega)) hR, h4.ag (hM _ (by omega)) (hM _ (by omega)) (hM _ (by omega)), h5.ag (fun i _ => hM i (by omega)) hR, h6.ag (hM _ (by omega)) (hM _ (by omega)), h7.ag (congrFun (hM _ (by omega)) _) (hM _ (by omega)), h8.ag (hM _ (by omega)) (congrFun (hM _ (by omega)) _) (hM _ (by omega)), h9.ag (fun i _ _ => hM i (by omega))⟩
theorem Cls.fr {X : Nat → Prop} (h : Cls G S a L I un u T tn fl m) (f : Fr X S S') (hX : ∀ i, X i → ¬ rlC i) : Cls G S' a L I un u T tn fl m :=
  h.ag (fun i hi => (f.2 i (fun hx => hX i hx hi)).1) f.1
theorem Cls.offC (h : Cls G S a L I un u T tn fl m) (f : OffC S S') : Cls G S' a L I un u T tn fl m :=
  h.ag (fun i hi => by unfold rlC at hi; exact (f.2 i (by omega)).1) f.1
theorem ShR.ag (h : ShR G S.2.2) (hR : S'.2.2 87 = S.2.2 87) : ShR G S'.2.2 := ⟨by rw [hR]; exact h.1, h.2⟩
theorem Ref.ag (h : Ref G S a L I un u T tn fl m) (h87 : ∀ k, k = 1 ∨ k = 9 ∨ k = 12 ∨ k = 14 ∨ k = 19 ∨ k = 21 ∨ k = 55 ∨ k = 59 → S'.1 87 k = S.1 87 k) (h88 : ∀ i, (88 ≤ i ∧ i ≤ 94) ∨ i = 97 ∨ i = 120 → S'.1 i = S.1 i) (hJ : ∀ i, 103 ≤ i ∧ i ≤ 105 ∨ i = 118 → S'.2.1 i = S.2.1 i) (hR : S'.2.2 87 = S.2.2 87) : Ref G S' a L I un u T tn fl m := by
  obtain ⟨⟨h1, h2, h3, h4, h5⟩, h6, h7, h8, h9, h10, h11⟩ := h
  refine ⟨⟨h1.ag hR, by rw [h88 90 (by omega)]; exact h2, by rw [h88 89 (by omega)]; exact h3, by rw [h88 90 (by omega)]; exact h4, by rw [h87 21 (by omega)]; exact h5⟩, ?_, ?_, ?_, ?_, ?_, ?_⟩
  · unfold ImgR; rw [h88 92 (by omega), h88 91 (by omega)]; exact h6
  · unfold UnR; rw [h87 9 (by omega), h88 94 (by omega), h88 93 (by omega)]; exact h7
  · unfold TapR; rw [h87 14 (by omega), h88 97 (by omega)]; exact h8
  · unfold FlR; rw [h87 1 (by omega), h87 12 (by omega), h87 55 (by omega), h87 19 (by omega), h88 88 (by omega)]; exact h9
  · unfold MonR; rw [h87 59 (by omega), h88 120 (by omega)]; exact h10
  · unfold CoR; rw [hJ 103 (by omega), hJ 104 (by omega), hJ 105 (by omega), hJ 118 (by omega)]; exact h11
theorem Ref.offR (h : Ref G S a L I un u T tn fl m) (f : OffR S S') : Ref G S' a L I un u T tn fl m :=
  h.ag (fun k _ => by rw [(f 87 (by omega) (by omega)).1]) (fun i _ => (f i (by omega) (by omega)).1) (fun i _ => (f i (by omega) (by omega)).2.1) (f 87 (by omega) (by omega)).2.2
theorem Ref.frR (h : Ref G S a L I un u T tn fl m) (f : FrR S S') : Ref G S' a L I un u T tn fl m :=
  h.ag (fun k hk => f.2.2.1 k (by omega) (by omega)) (fun i _ => f.2.1 i (by omega)) (fun i _ => f.2.2.2.1 i (by omega) (by omega) (by omega)) (by rw [f.1])
/-- a place of the reference that no one asks -/
theorem Ref.u87 {k : Nat} {v : Int32} (h : Ref G S a L I un u T tn fl m) (hk : k ≠ 1 ∧ k ≠ 9 ∧ k ≠ 12 ∧ k ≠ 14 ∧ k ≠ 19 ∧ k ≠ 21 ∧ k ≠ 55 ∧ k ≠ 59) : Ref G (uI S 87 k v) a L I un u T tn fl m :=
  h.ag (fun j hj => uI_p _ _ _ _ (by omega)) (fun i _ => uI_n _ _ _ _ (by omega)) (fun _ _ => rfl) rfl
theorem Ref.rfp (h : Ref G S a L I un u T tn fl m) (hV : Va a) : RfP G S a L := ⟨h.1.1, h.1.2.1, h.1.2.2.1, h.1.2.2.2.1, h.1.2.2.2.2, hV⟩
end
