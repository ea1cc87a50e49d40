-- needs: 200 201 202 203 204 210 211 220 221 222 223 224 225 226 227 228 230 231
/-! Writing the row, on both sides. -/
section
variable {G : Gm} {S S' : St} {a m : Rw} {L : Nat → Lw} {I : Im} {un tn : Nat} {u : Un} {T : Nat → Nat} {fl : Nat → Int32} {Q : Int32 → St → Prop}
theorem LwC.eqa {p : Nat} {b : Rw} (h : LwC G S p a L) (e : b 2 = a 2) : LwC G S p b L := fun k hk => h k (by omega)
theorem LwD.eqa {p : Nat} {b : Rw} (h : LwD G S p a L) (e : b 2 = a 2) : LwD G S p b L := ⟨h.1.eqa e, fun k hk => h.2 k (by omega)⟩
/-- the parish now, set at a place -/
theorem Cls.set {q i v x : Nat} (h : Cls G S a L I un u T tn fl m) (hp : pos 1 q i x) (hx : x ≠ 2) : Cls G (uI S q i (nI v)) (up a x v) L I un u T tn fl m := by
  obtain ⟨h1, h2, h3, h4, h5, h6, h7, h8, h9⟩ := h
  have hq : 1 ≤ q ∧ q ≤ 7 := by unfold pos at hp; omega
  have e : ∀ k, k ≠ q → (uI S q i (nI v)).1 k = S.1 k := fun k hk => uI_n _ _ _ _ hk
  exact ⟨h1, h2.set hp, (h3.ag (fun i _ => e i (by omega)) rfl).eqa (up_n a (by omega)), h4.ag (e _ (by omega)) (e _ (by omega)) (e _ (by omega)), h5.ag (fun i _ => e i (by omega)) rfl, h6.ag (e _ (by omega)) (e _ (by omega)), h7.ag (by rw [e 75 (by omega)]) (e _ (by omega)), h8.ag (e _ (by omega)) (by rw [e 75 (by omega)]) (e _ (by omega)), h9.ag (fun i _ _ => e i (by omega))⟩
theorem Cls.setF {f : Nat} (h : Cls G S a L I un u T tn fl m) : Cls G (uI S 1 10 (nI f - 1)) (up a 3 f) L I un u T tn fl m := by
  obtain ⟨h1, h2, h3, h4, h5, h6, h7, h8, h9⟩ := h
  have e : ∀ k, k ≠ 1 → (uI S 1 10 (nI f - 1)).1 k = S.1 k := fun k hk => uI_n _ _ _ _ hk
  exact ⟨h1, h2.force, (h3.ag (fun i _ => e i (by omega)) rfl).eqa (up_n a (by omega)), h4.ag (e _ (by omega)) (e _ (by omega)) (e _ (by omega)), h5.ag (fun i _ => e i (by omega)) rfl, h6.ag (e _ (by omega)) (e _ (by omega)), h7.ag (by rw [e 75 (by omega)]) (e _ (by omega)), h8.ag (e _ (by omega)) (by rw [e 75 (by omega)]) (e _ (by omega)), h9.ag (fun i _ _ => e i (by omega))⟩
theorem Cls.eqa {b : Rw} (h : Cls G S a L I un u T tn fl m) (e : eq60 a b) : Cls G S b L I un u T tn fl m :=
  ⟨h.1, h.2.1.eq e, h.2.2.1.eqa (e 2 (by omega)).symm, h.2.2.2⟩
theorem LwR.eqa {f : Nat → Int32} {b : Rw} (h : LwR f a L) (e : b 2 = a 2) : LwR f b L := fun k hk => h k (by omega)
theorem LawR.ag {f f' : Nat → Int32} {w : Nat} {lw : Lw} (h : LawR f w lw) (e : ∀ i, w ≤ i → i < w + 900 → f' i = f i) : LawR f' w lw := by
  obtain ⟨h1, h2, c, N, hN, hc, hq⟩ := h
  refine ⟨by rw [e _ (by omega) (by omega)]; exact h1, h2, c, N, hN, fun k hk => ?_, fun q hq' => ?_⟩
  · rw [e _ (by omega) (by omega), e _ (by omega) (by omega)]; exact hc k hk
  · rw [e _ (by omega) (by omega)]
    obtain ⟨g1, m0, m2, m3, g3, g4, g5, g6, g⟩ := hq q hq'
    refine ⟨g1, m0, m2, m3, ?_⟩
    rw [e _ (by omega) (by omega), e _ (by omega) (by omega), e _ (by omega) (by omega), e _ (by omega) (by omega)]
    exact ⟨g3, g4, g5, g6, g⟩
theorem LwR.ag {f f' : Nat → Int32} (h : LwR f a L) (e : ∀ i, 85 ≤ i → f' i = f i) : LwR f' a L := fun k hk => (h k hk).ag (fun i h1 _ => e i (by omega))
theorem Ref.eqa {b : Rw} (h : Ref G S a L I un u T tn fl m) (e : eq60 a b) : Ref G S b L I un u T tn fl m :=
  ⟨⟨h.1.1, h.1.2.1.eq e, h.1.2.2.1, h.1.2.2.2.1.eqa (e 2 (by omega)).symm, h.1.2.2.2.2⟩, h.2⟩
/-- the reference's row, set below 85 -/
theorem Ref.row {b : Rw} {f : Nat → Int32} (h : Ref G S a L I un u T tn fl m) (hf : RowR f b) (hb : b 2 = a 2) (h85 : ∀ i, 85 ≤ i → f i = S.1 90 i) (e90 : S'.1 90 = f) (hM : ∀ i, i ≠ 90 → S'.1 i = S.1 i) (hJ : S'.2 = S.2) : Ref G S' b L I un u T tn fl m := by
  obtain ⟨⟨h1, h2, h3, h4, h5⟩, h6, h7, h8, h9, h10, h11⟩ := h
  refine ⟨⟨by rw [hJ]; exact h1, by rw [e90]; exact hf, by rw [hM 89 (by omega)]; exact h3, ?_, by rw [hM 87 (by omega)]; exact h5⟩, ?_, ?_, ?_, ?_, ?_, ?_⟩
  · rw [e90]; exact (h4.ag h85).eqa hb
  · unfold ImgR; rw [hM 92 (by omega), hM 91 (by omega)]; exact h6
  · unfold UnR; rw [hM 87 (by omega), hM 94 (by omega), hM 93 (by omega)]; exact h7
  · unfold TapR; rw [hM 87 (by omega), hM 97 (by omega)]; exact h8
  · unfold FlR; rw [hM 87 (by omega), hM 88 (by omega)]; exact h9
  · unfold MonR; rw [hM 87 (by omega), hM 120 (by omega)]; exact h10
  · unfold CoR; rw [hJ]; exact h11
def posR (i x : Nat) : Prop := (i = x ∧ (x < 3 ∨ (4 ≤ x ∧ x < 32))) ∨ (62 ≤ i ∧ i < 68 ∧ x + 24 = i) ∨ (∃ k, k < 8 ∧ i = 68 + 2 * k ∧ x = 44 + k) ∨ (∃ k, k < 8 ∧ i = 69 + 2 * k ∧ x = 52 + k)
theorem rs_eq {f f' : Nat → Int32} {i0 v x i x' : Nat} (hf : f i = nI (a x')) (h1 : ∀ i, i ≠ i0 → f' i = f i) (h2 : f' i0 = nI v) (hi : i = i0 ↔ x' = x) : f' i = nI (up a x v x') := by
  by_cases h : i = i0
  · rw [h, hi.mp h, up_s]; exact h2
  · rw [h1 i h, up_n a (fun e => h (hi.mpr e))]; exact hf
theorem RowR.set {f f' : Nat → Int32} {i0 v x : Nat} (h : RowR f a) (h1 : ∀ i, i ≠ i0 → f' i = f i) (h2 : f' i0 = nI v) (hp : posR i0 x) : RowR f' (up a x v) := by
  obtain ⟨g0, g1, g2, g3, g4, g5, g6, g7, g8, g9, g10⟩ := h
  have ho : i0 ≠ 3 ∧ ¬ (32 ≤ i0 ∧ i0 < 62) ∧ x ≠ 3 ∧ ¬ (32 ≤ x ∧ x < 38) := by
    unfold posR at hp
    rcases hp with hp | hp | ⟨k, hp⟩ | ⟨k, hp⟩ <;> omega
  have hr : ∀ i x', (i = x' ∧ (x' < 3 ∨ (4 ≤ x' ∧ x' < 32))) ∨ (62 ≤ i ∧ i < 68 ∧ x' + 24 = i) → (i = i0 ↔ x' = x) := by
    intro i x' hh
    unfold posR at hp
    rcases hp with hp | hp | ⟨k, hp⟩ | ⟨k, hp⟩ <;> omega
  have hr1 : ∀ k, k < 8 → (68 + 2 * k = i0 ↔ 44 + k = x) := by
    intro i x'
    unfold posR at hp
    rcases hp with hp | hp | ⟨k, hp⟩ | ⟨k, hp⟩ <;> omega
  have hr2 : ∀ k, k < 8 → (69 + 2 * k = i0 ↔ 52 + k = x) := by
    intro i x'
    unfold posR at hp
    rcases hp with hp | hp | ⟨k, hp⟩ | ⟨k, hp⟩ <;> omega
  refine ⟨rs_eq g0 h1 h2 (hr _ _ (by omega)), rs_eq g1 h1 h2 (hr _ _ (by omega)), rs_eq g2 h1 h2 (hr _ _ (by omega)), ?_, fun k hk => rs_eq (g4 k hk) h1 h2 (hr _ _ (by omega)), fun k hk => rs_eq (g5 k hk) h1 h2 (hr _ _ (by omega)), fun j hj => ?_, fun j hj k hk => ?_, fun k hk => rs_eq (g8 k hk) h1 h2 (hr _ _ (by omega)), fun k hk => rs_eq (g9 k hk) h1 h2 (hr1 k hk), fun k hk => rs_eq (g10 k hk) h1 h2 (hr2 k hk)⟩
  · rw [h1 3 (by omega), up_n a (by omega)]; exact g3
  · rw [h1 _ (by omega), up_n a (by omega)]; exact g6 j hj
  · rw [h1 _ (by omega), up_n a (by omega)]; exact g7 j hj k hk
theorem RowR.setF {f f' : Nat → Int32} {v : Nat} (h : RowR f a) (h1 : ∀ i, i ≠ 3 → f' i = f i) (h2 : f' 3 = nI v - 1) : RowR f' (up a 3 v) := by
  obtain ⟨g0, g1, g2, g3, g4, g5, g6, g7, g8, g9, g10⟩ := h
  have z : ∀ i x', i ≠ 3 → x' ≠ 3 → ∀ (w : Nat → Nat), f i = nI (w (a x')) → f' i = nI (w (up a 3 v x')) := by
    intro i x' hi hx w hw
    rw [h1 i hi, up_n a hx]; exact hw
  refine ⟨z 0 0 (by omega) (by omega) id g0, z 1 1 (by omega) (by omega) id g1, z 2 2 (by omega) (by omega) id g2, by rw [up_s]; exact h2, fun k hk => z _ _ (by omega) (by omega) id (g4 k hk), fun k hk => z _ _ (by omega) (by omega) id (g5 k hk), fun k hk => z _ _ (by omega) (by omega) gn (g6 k hk), fun j hj k hk => z _ _ (by omega) (by omega) (fun g => gk g k) (g7 j hj k hk), fun k hk => z _ _ (by omega) (by omega) id (g8 k hk), fun k hk => z _ _ (by omega) (by omega) id (g9 k hk), fun k hk => z _ _ (by omega) (by omega) id (g10 k hk)⟩
/-- a glass is put -/
theorem RowR.setG {f f' : Nat → Int32} {j g : Nat} (h : RowR f a) (hj : j < 6) (h1 : ∀ i, (i < 32 + 5 * j ∨ 32 + 5 * j + 5 ≤ i) → f' i = f i) (h2 : f' (32 + 5 * j) = nI (gn g)) (h3 : ∀ k, k < 4 → f' (33 + 5 * j + k) = nI (gk g k)) : RowR f' (up a (32 + j) g) := by
  obtain ⟨g0, g1, g2, g3, g4, g5, g6, g7, g8, g9, g10⟩ := h
  have z : ∀ i x', (i < 32 + 5 * j ∨ 32 + 5 * j + 5 ≤ i) → x' ≠ 32 + j → ∀ (w : Nat → Nat), f i = nI (w (a x')) → f' i = nI (w (up a (32 + j) g x')) := by
    intro i x' hi hx w hw
    rw [h1 i hi, up_n a hx]; exact hw
  refine ⟨z 0 0 (by omega) (by omega) id g0, z 1 1 (by omega) (by omega) id g1, z 2 2 (by omega) (by omega) id g2, ?_, fun k hk => z _ _ (by omega) (by omega) id (g4 k hk), fun k hk => z _ _ (by omega) (by omega) id (g5 k hk), fun k hk => ?_, fun k hk l hl => ?_, fun k hk => z _ _ (by omega) (by omega) id (g8 k hk), fun k hk => z _ _ (by omega) (by omega) id (g9 k hk), fun k hk => z _ _ (by omega) (by omega) id (g10 k hk)⟩
  · rw [h1 3 (by omega), up_n a (by omega)]; exact g3
  · by_cases e : k = j
    · subst e; rw [up_s]; exact h2
    · exact z _ _ (by omega) (by omega) gn (g6 k hk)
  · by_cases e : k = j
    · subst e; rw [up_s]; exact h3 l hl
    · exact z _ _ (by omega) (by omega) (fun g => gk g l) (g7 k hk l hl)
theorem Ref.set {i v x : Nat} (h : Ref G S a L I un u T tn fl m) (hp : posR i x) (hx : x ≠ 2) : Ref G (uI S 90 i (nI v)) (up a x v) L I un u T tn fl m := by
  have hi : i < 85 := by
    unfold posR at hp
    rcases hp with hp | hp | ⟨k, hp⟩ | ⟨k, hp⟩ <;> omega
  refine h.row (f := (uI S 90 i (nI v)).1 90) (h.1.2.1.set (i0 := i) (fun j hj => by rw [uI_s, if_neg hj]) (by rw [uI_s, if_pos rfl]) hp) (up_n a (by omega)) (fun j hj => by rw [uI_s, if_neg (by omega)]) rfl (fun j hj => uI_n _ _ _ _ hj) rfl
theorem Ref.setF {v : Nat} (h : Ref G S a L I un u T tn fl m) : Ref G (uI S 90 3 (nI v - 1)) (up a 3 v) L I un u T tn fl m :=
  h.row (f := (uI S 90 3 (nI v - 1)).1 90) (h.1.2.1.setF (fun j hj => by rw [uI_s, if_neg hj]) (by rw [uI_s, if_pos rfl])) (up_n a (by omega)) (fun j hj => by rw [uI_s, if_neg (by omega)]) rfl (fun j hj => uI_n _ _ _ _ hj) rfl
theorem Vld.set {x v : Nat} (h : Vld a I un u T tn m) (hV : Va (up a x v)) (hx : x ≠ 0 ∧ x ≠ 5 ∧ x ≠ 6 ∧ x ≠ 7) : Vld (up a x v) I un u T tn m := by
  refine ⟨hV, h.2.1, h.2.2.1, fun k hk => ?_, h.2.2.2.2⟩
  obtain ⟨g1, g2, g3, g4, g5, g6⟩ := h.2.2.2.1 k hk
  exact ⟨g1, g2, by rw [up_n a (by omega)]; exact g3, by rw [up_n a (by omega)]; exact g4, by rw [up_n a (by omega)]; exact g5, by rw [up_n a (by omega)]; exact g6⟩
theorem Vld.set0 {b : Rw} (h : Vld a I un u T tn m) (hV : Va b) : Vld b I 0 u T tn m := ⟨hV, h.2.1, by omega, fun k hk => absurd hk (by omega), h.2.2.2.2⟩
end
