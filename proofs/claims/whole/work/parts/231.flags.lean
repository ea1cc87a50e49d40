-- needs: 200 201 202 203 204 210 211 220 221 222 223 224 225 226 227 228 230
/-! Refused and done: the status and what it was refused by. -/
def upF (fl : Nat → Int32) (k : Nat) (v : Int32) : Nat → Int32 := fun i => if i = k then v else fl i
/-- refused by -n -/
def flN (fl : Nat → Int32) (n : Nat) : Nat → Int32 := upF (upF fl 0 (-(nI n))) (4 + n) (fl (4 + n) + 1)
/-- done -/
def flA (fl : Nat → Int32) : Nat → Int32 := upF fl 0 0
section
variable {G : Gm} {S S' : St} {a m : Rw} {L : Nat → Lw} {I : Im} {un tn : Nat} {u : Un} {T : Nat → Nat} {fl : Nat → Int32} {Q : Int32 → St → Prop}
theorem Cls.flag {k : Nat} {v : Int32} (h : Cls G S a L I un u T tn fl m) (hk : k < 3) : Cls G (uI S 0 (10 + k) v) a L I un u T tn (upF fl k v) m := by
  obtain ⟨h1, h2, h3, h4, h5, h6, h7, h8, h9⟩ := h
  have e : ∀ i, i ≠ 0 → (uI S 0 (10 + k) v).1 i = S.1 i := fun i hi => uI_n _ _ _ _ hi
  refine ⟨h1, h2.ag (fun i _ _ => e i (by omega)), h3.ag (fun i _ => e i (by omega)) rfl, h4.ag (e _ (by omega)) (e _ (by omega)) (e _ (by omega)), h5.ag (fun i _ => e i (by omega)) rfl, h6.ag (e _ (by omega)) (e _ (by omega)), h7.ag (by rw [e 75 (by omega)]) (e _ (by omega)), ?_, h9.ag (fun i _ _ => e i (by omega))⟩
  obtain ⟨g0, g1, g2, g3, g4⟩ := h8
  refine ⟨?_, ?_, ?_, ?_, fun j hj => ?_⟩
  · rw [uI_s]; unfold upF; by_cases h : k = 0
    · subst h; rw [if_pos rfl, if_pos rfl]
    · rw [if_neg (by omega), if_neg (by omega)]; exact g0
  · rw [uI_s]; unfold upF; by_cases h : k = 1
    · subst h; rw [if_pos rfl, if_pos rfl]
    · rw [if_neg (by omega), if_neg (by omega)]; exact g1
  · rw [uI_s]; unfold upF; by_cases h : k = 2
    · subst h; rw [if_pos rfl, if_pos rfl]
    · rw [if_neg (by omega), if_neg (by omega)]; exact g2
  · rw [e 75 (by omega)]; unfold upF; rw [if_neg (by omega)]; exact g3
  · rw [e 86 (by omega)]; unfold upF; rw [if_neg (by omega)]; exact g4 j hj
theorem Cls.rfs {n : Nat} {v : Int32} (h : Cls G S a L I un u T tn fl m) (hn : n < 7) : Cls G (uI S 86 n v) a L I un u T tn (upF fl (4 + n) v) m := by
  obtain ⟨h1, h2, h3, h4, h5, h6, h7, h8, h9⟩ := h
  have e : ∀ i, i ≠ 86 → (uI S 86 n v).1 i = S.1 i := fun i hi => uI_n _ _ _ _ hi
  refine ⟨h1, h2.ag (fun i _ _ => e i (by omega)), h3.ag (fun i _ => e i (by omega)) rfl, h4.ag (e _ (by omega)) (e _ (by omega)) (e _ (by omega)), h5.ag (fun i _ => e i (by omega)) rfl, h6.ag (e _ (by omega)) (e _ (by omega)), h7.ag (by rw [e 75 (by omega)]) (e _ (by omega)), ?_, h9.ag (fun i _ _ => e i (by omega))⟩
  obtain ⟨g0, g1, g2, g3, g4⟩ := h8
  refine ⟨?_, ?_, ?_, ?_, fun j hj => ?_⟩
  · rw [e 0 (by omega)]; unfold upF; rw [if_neg (by omega)]; exact g0
  · rw [e 0 (by omega)]; unfold upF; rw [if_neg (by omega)]; exact g1
  · rw [e 0 (by omega)]; unfold upF; rw [if_neg (by omega)]; exact g2
  · rw [e 75 (by omega)]; unfold upF; rw [if_neg (by omega)]; exact g3
  · rw [uI_s]; unfold upF; by_cases h : j = n
    · subst h; rw [if_pos rfl, if_pos rfl]
    · rw [if_neg h, if_neg (by omega)]; exact g4 j hj
theorem C_accept {r : Int32} (h : Cls G S a L I un u T tn fl m) (k : ∀ S', Cls G S' a L I un u T tn (flA fl) m → OffR S S' → Q r S') : f_X10_accept G 0 r Q S :=
  nm_e (k _ (h.flag (k := 0) (by omega)) ((OffR.refl S).uI (by omega)))
theorem lt6n {n : Nat} (h1 : 1 ≤ n) (h : n ≤ 6) : n = 1 ∨ n = 2 ∨ n = 3 ∨ n = 4 ∨ n = 5 ∨ n = 6 := by omega
theorem neg_n {n : Nat} (h1 : 1 ≤ n) (h : n ≤ 6) : ¬ 0 ≤ -(nI n) ∧ ¬ -(nI n) < -6 ∧ -(-(nI n)) = nI n := by
  rcases lt6n h1 h with rfl | rfl | rfl | rfl | rfl | rfl <;> decide
theorem C_refuse {n : Nat} (h : Cls G S a L I un u T tn fl m) (h1 : 1 ≤ n) (h6 : n ≤ 6) (k : ∀ S', Cls G S' a L I un u T tn (flN fl n) m → OffR S S' → Q (-(nI n)) S') : f_X10_refuse G 0 (-(nI n)) Q S := by
  obtain ⟨e1, e2, e3⟩ := neg_n h1 h6
  have hS := h.1
  have h' := h.flag (k := 0) (v := -(nI n)) (by omega)
  have g4 := h.2.2.2.2.2.2.2.1.2.2.2.2 n (by omega)
  refine nm_e (ite_n e1 (ite_n e2 (ex_y hS.r0_9 ?_)))
  rw [e3, hS.l86, in_iff (by omega), clI (by omega)]
  refine ⟨by omega, by omega, nm_e (k _ ?_ (((OffR.refl S).uI (by omega)).uI (by omega)))⟩
  rw [show (uI S 0 10 (-(nI n))).1 86 n = fl (4 + n) from g4]
  exact h'.rfs (by omega)
/-- the reference -/
theorem Ref.flag {k j : Nat} {v : Int32} (h : Ref G S a L I un u T tn fl m) (hk : (k = 0 ∧ j = 1) ∨ (k = 1 ∧ j = 12) ∨ (k = 2 ∧ j = 55) ∨ (k = 3 ∧ j = 19)) : Ref G (uI S 87 j v) a L I un u T tn (upF fl k v) m := by
  obtain ⟨⟨h1, h2, h3, h4, h5⟩, h6, h7, h8, h9, h10, h11⟩ := h
  have e : ∀ i, i ≠ 87 → (uI S 87 j v).1 i = S.1 i := fun i hi => uI_n _ _ _ _ hi
  have p : ∀ q, q ≠ j → (uI S 87 j v).1 87 q = S.1 87 q := fun q hq => uI_p _ _ _ _ hq
  refine ⟨⟨h1, by rw [e 90 (by omega)]; exact h2, by rw [e 89 (by omega)]; exact h3, by rw [e 90 (by omega)]; exact h4, by rw [p 21 (by omega)]; exact h5⟩, ?_, ?_, ?_, ?_, ?_, h11⟩
  · unfold ImgR; rw [e 92 (by omega), e 91 (by omega)]; exact h6
  · unfold UnR; rw [p 9 (by omega), e 94 (by omega), e 93 (by omega)]; exact h7
  · unfold TapR; rw [p 14 (by omega), e 97 (by omega)]; exact h8
  · obtain ⟨g0, g1, g2, g3, g4⟩ := h9
    refine ⟨?_, ?_, ?_, ?_, fun q hq => ?_⟩
    · rw [uI_s]; unfold upF; by_cases h : k = 0
      · rw [if_pos (by omega), if_pos (by omega)]
      · rw [if_neg (by omega), if_neg (by omega)]; exact g0
    · rw [uI_s]; unfold upF; by_cases h : k = 1
      · rw [if_pos (by omega), if_pos (by omega)]
      · rw [if_neg (by omega), if_neg (by omega)]; exact g1
    · rw [uI_s]; unfold upF; by_cases h : k = 2
      · rw [if_pos (by omega), if_pos (by omega)]
      · rw [if_neg (by omega), if_neg (by omega)]; exact g2
    · rw [uI_s]; unfold upF; by_cases h : k = 3
      · rw [if_pos (by omega), if_pos (by omega)]
      · rw [if_neg (by omega), if_neg (by omega)]; exact g3
    · rw [e 88 (by omega)]; unfold upF; rw [if_neg (by omega)]; exact g4 q hq
  · unfold MonR; rw [p 59 (by omega), e 120 (by omega)]; exact h10
theorem Ref.rfs {n : Nat} {v : Int32} (h : Ref G S a L I un u T tn fl m) (hn : n < 7) : Ref G (uI S 88 n v) a L I un u T tn (upF fl (4 + n) v) m := by
  obtain ⟨⟨h1, h2, h3, h4, h5⟩, h6, h7, h8, h9, h10, h11⟩ := h
  have e : ∀ i, i ≠ 88 → (uI S 88 n v).1 i = S.1 i := fun i hi => uI_n _ _ _ _ hi
  refine ⟨⟨h1, by rw [e 90 (by omega)]; exact h2, by rw [e 89 (by omega)]; exact h3, by rw [e 90 (by omega)]; exact h4, by rw [e 87 (by omega)]; exact h5⟩, ?_, ?_, ?_, ?_, ?_, h11⟩
  · unfold ImgR; rw [e 92 (by omega), e 91 (by omega)]; exact h6
  · unfold UnR; rw [e 87 (by omega), e 94 (by omega), e 93 (by omega)]; exact h7
  · unfold TapR; rw [e 87 (by omega), e 97 (by omega)]; exact h8
  · obtain ⟨g0, g1, g2, g3, g4⟩ := h9
    refine ⟨?_, ?_, ?_, ?_, fun q hq => ?_⟩
    · rw [e 87 (by omega)]; unfold upF; rw [if_neg (by omega)]; exact g0
    · rw [e 87 (by omega)]; unfold upF; rw [if_neg (by omega)]; exact g1
    · rw [e 87 (by omega)]; unfold upF; rw [if_neg (by omega)]; exact g2
    · rw [e 87 (by omega)]; unfold upF; rw [if_neg (by omega)]; exact g3
    · rw [uI_s]; unfold upF; by_cases h : q = n
      · subst h; rw [if_pos rfl, if_pos rfl]
      · rw [if_neg h, if_neg (by omega)]; exact g4 q hq
  · unfold MonR; rw [e 87 (by omega), e 120 (by omega)]; exact h10
theorem M_tell_n {n : Nat} (h : Ref G S a L I un u T tn fl m) (h1 : 1 ≤ n) (h6 : n ≤ 6) (k : ∀ S', Ref G S' a L I un u T tn (flN fl n) m → OffC S S' → Q (-(nI n)) S') : f_X11_tell G 87 (-(nI n)) Q S := by
  obtain ⟨e1, e2, e3⟩ := neg_n h1 h6
  have hS := h.1.1
  have h' := h.flag (k := 0) (j := 1) (v := -(nI n)) (by omega)
  have g4 := h.2.2.2.2.1.2.2.2.2 n (by omega)
  refine ite_n e1 (nm_e (ite_n e1 (ex_y hS.refusals ?_)))
  rw [e3, hS.refusals_l, in_iff (by omega), clI (by omega)]
  refine ⟨by omega, by omega, nm_e (k _ ?_ (((OffC.refl S).uI (by omega) (by omega)).uI (by omega) (by omega)))⟩
  rw [show (uI S 87 1 (-(nI n))).1 88 n = fl (4 + n) from g4]
  exact h'.rfs (by omega)
theorem M_tell_y {r : Int32} (h : Ref G S a L I un u T tn fl m) (hr : 0 ≤ r) (k : ∀ S', Ref G S' a L I un u T tn (flA fl) m → OffC S S' → Q r S') : f_X11_tell G 87 r Q S :=
  ite_y hr (nm_e (ite_y hr (k _ (h.flag (k := 0) (j := 1) (by omega)) ((OffC.refl S).uI (by omega) (by omega)))))
theorem Ref.un0 (h : Ref G S a L I un u T tn fl m) : Ref G (uI S 87 9 0) a L I 0 u T tn fl m := by
  obtain ⟨⟨h1, h2, h3, h4, h5⟩, h6, h7, h8, h9, h10, h11⟩ := h
  have e : ∀ i, i ≠ 87 → (uI S 87 9 0).1 i = S.1 i := fun i hi => uI_n _ _ _ _ hi
  have p : ∀ q, q ≠ 9 → (uI S 87 9 0).1 87 q = S.1 87 q := fun q hq => uI_p _ _ _ _ hq
  refine ⟨⟨h1, by rw [e 90 (by omega)]; exact h2, by rw [e 89 (by omega)]; exact h3, by rw [e 90 (by omega)]; exact h4, by rw [p 21 (by omega)]; exact h5⟩, ?_, ?_, ?_, ?_, ?_, h11⟩
  · unfold ImgR; rw [e 92 (by omega), e 91 (by omega)]; exact h6
  · exact ⟨by rw [uI_s, if_pos rfl]; rfl, fun k hk => absurd hk (by omega)⟩
  · unfold TapR; rw [p 14 (by omega), e 97 (by omega)]; exact h8
  · unfold FlR; rw [p 1 (by omega), p 12 (by omega), p 55 (by omega), p 19 (by omega), e 88 (by omega)]; exact h9
  · unfold MonR; rw [p 59 (by omega), e 120 (by omega)]; exact h10
theorem M_settled_y {r : Int32} (h : Ref G S a L I un u T tn fl m) (hr : 0 ≤ r) (k : ∀ S', Ref G S' a L I 0 u T tn (flA fl) m → OffC S S' → Q r S') : f_X11_settled G 87 r Q S :=
  ite_y hr (nm_e (M_tell_y h.un0 hr (fun S' h' o' => k S' h' (((OffC.refl S).uI (by omega) (by omega)).trans o'))))
theorem Ref.same {k : Nat} {v : Int32} (h : Ref G S a L I un u T tn fl m) (hv : v = S.1 87 k) : Ref G (uI S 87 k v) a L I un u T tn fl m := by
  have e : uI S 87 k v = S := by
    unfold uI
    rw [hv]
    refine Prod.ext ?_ rfl
    funext i j
    show (if i = 87 ∧ j = k then S.1 87 k else S.1 i j) = S.1 i j
    split
    · rename_i hh; rw [hh.1, hh.2]
    · rfl
  rw [e]; exact h
theorem M_settled_n {n : Nat} (h : Ref G S a L I un u T tn fl m) (h1 : 1 ≤ n) (h6 : n ≤ 6) (k : ∀ S', Ref G S' a L I un u T tn (flN fl n) m → OffC S S' → Q (-(nI n)) S') : f_X11_settled G 87 (-(nI n)) Q S :=
  ite_n (neg_n h1 h6).1 (nm_e (M_tell_n (h.same rfl) h1 h6 (fun S' h' o' => k S' h' (((OffC.refl S).uI (by omega) (by omega)).trans o'))))
theorem Cls.tr0 (h : Cls G S a L I un u T tn fl m) : Cls G (uI S 18 2 0) a L I 0 u T tn fl m := by
  obtain ⟨h1, h2, h3, h4, h5, h6, h7, h8, h9⟩ := h
  have e : ∀ i, i ≠ 18 → (uI S 18 2 0).1 i = S.1 i := fun i hi => uI_n _ _ _ _ hi
  refine ⟨h1, h2.ag (fun i _ _ => e i (by omega)), h3.ag (fun i _ => e i (by omega)) rfl, h4.ag (e _ (by omega)) (e _ (by omega)) (e _ (by omega)), h5.ag (fun i _ => e i (by omega)) rfl, ?_, h7.ag (by rw [e 75 (by omega)]) (e _ (by omega)), h8.ag (e _ (by omega)) (by rw [e 75 (by omega)]) (e _ (by omega)), h9.ag (fun i _ _ => e i (by omega))⟩
  obtain ⟨_, nx, g1, g2, _⟩ := h6
  exact ⟨by rw [uI_s, if_pos rfl]; rfl, nx, g1, by rw [uI_s, if_neg (by omega)]; exact g2, fun k hk => absurd hk (by omega)⟩
theorem C_empty {K : St → Prop} (h : Cls G S a L I un u T tn fl m) (k : ∀ S', Cls G S' a L I 0 u T tn fl m → OffR S S' → K S') : f_X9_empty G 18 K S :=
  nm_e (k _ h.tr0 ((OffR.refl S).uI (by omega)))
theorem Vld.un0 (h : Vld a I un u T tn m) : Vld a I 0 u T tn m := ⟨h.1, h.2.1, by omega, fun k hk => absurd hk (by omega), h.2.2.2.2⟩
/-- all that is held by both -/
def Inv (G : Gm) (S : St) : Prop := ∃ a L I un u T tn fl m, Vld a I un u T tn m ∧ Cls G S a L I un u T tn fl m ∧ Ref G S a L I un u T tn fl m
end
