-- needs: 360
/-! row. -/
abbrev gdS (T : Nat → Nat) (tn i : Nat) : Prop := i + 4 ≤ tn ∧ T (i + 0) ≤ 8 ∧ T (i + 1) ≤ 8 ∧ T (i + 2) ≤ 8 ∧ T (i + 3) ≤ 8
def rowS (T : Nat → Nat) (tn : Nat) : Nat → Nat → Rw → Nat → Nat → Rw × Nat × Nat
  | 0, _, a, c, s => (a, c, s)
  | n + 1, i, a, c, s => if tn ≤ i then (a, c, s) else if gdS T tn i ∧ a 0 < 6 then rowS T tn n (i + 4) (newP a (fun k => T (i + k))) (c + 1) s else rowS T tn n (i + 4) a c (s + 1)
section
variable {G : Gm} {S S' : St} {a m : Rw} {L : Nat → Lw} {I : Im} {un tn : Nat} {u : Un} {T : Nat → Nat} {fl : Nat → Int32} {Q : Int32 → St → Prop} {K : Gm → St → Prop} {Z : St → Prop}
theorem gdS_k {i k : Nat} (h : gdS T tn i) (hk : k < 4) : T (i + k) ≤ 8 := by
  rcases lt4 hk with rfl | rfl | rfl | rfl
  · exact h.2.1
  · exact h.2.2.1
  · exact h.2.2.2.1
  · exact h.2.2.2.2
theorem rowS_v (hV : Va a) : ∀ n i c s, Va (rowS T tn n i a c s).1 ∧ (rowS T tn n i a c s).2.1 ≤ c + n ∧ (rowS T tn n i a c s).2.2 ≤ s + n := by
  intro n
  induction n generalizing a with
  | zero => intro i c s; exact ⟨hV, by show c ≤ c + 0; omega, by show s ≤ s + 0; omega⟩
  | succ n ih =>
    intro i c s
    rw [rowS]
    split
    · exact ⟨hV, by show c ≤ _; omega, by show s ≤ _; omega⟩
    split
    · rename_i h
      have w := ih (newP_v (q := fun k => T (i + k)) hV h.2 (fun k hk => gdS_k h.1 hk)) (i + 4) (c + 1) s
      exact ⟨w.1, by omega, by omega⟩
    · have w := ih hV (i + 4) c (s + 1)
      exact ⟨w.1, by omega, by omega⟩
theorem c_byte_y {x : Nat} (hC : Cls G S a L I un u T tn fl m) (ht : tn ≤ 400) (hx : x < tn) (h : Q (nI (T x)) S) : f_X6_byteAt G 75 (nI x) Q S := by
  have e1 : S.1 75 1 = nI tn := hC.2.2.2.2.2.2.1.1
  unfold f_X6_byteAt
  rw [e1]
  refine ite_n (by simp (disch := omega) only [lit, nI_add, pk_mul, leI, ltI, eqI]; omega) (ite_n (by simp (disch := omega) only [lit, nI_add, pk_mul, leI, ltI, eqI]; omega) (ite_n (by simp (disch := omega) only [lit, nI_add, pk_mul, leI, ltI, eqI]; omega) (ex_y hC.1.r75_0 ⟨by rw [hC.1.l76, in_iff (by omega)]; omega, ?_⟩)))
  rw [clI (by omega), hC.2.2.2.2.2.2.1.2 x hx]; exact h
theorem c_byte_n {x : Nat} (hC : Cls G S a L I un u T tn fl m) (ht : tn ≤ 400) (hx : tn ≤ x) (hx2 : x < 1000) (h : Q (-1) S) : f_X6_byteAt G 75 (nI x) Q S := by
  have e1 : S.1 75 1 = nI tn := hC.2.2.2.2.2.2.1.1
  unfold f_X6_byteAt
  rw [e1]
  exact ite_n (by simp (disch := omega) only [lit, nI_add, pk_mul, leI, ltI, eqI]; omega) (ite_y (by simp (disch := omega) only [lit, nI_add, pk_mul, leI, ltI, eqI]; omega) h)
theorem c_hasSins {i : Nat} (hC : Cls G S a L I un u T tn fl m) (ht : tn ≤ 400) (hi : i < 500) (hT : ∀ i, i < tn → T i ≤ 255) (h1 : gdS T tn i → Q 1 S) (h0 : ¬ gdS T tn i → Q 0 S) : f_X6_hasSinsAt G 75 (nI i) Q S := by
  have st : ∀ {n k : Nat}, k < 4 → ((i + k < tn ∧ T (i + k) ≤ 8) → f_X6_hasSinsAt_2_n G 75 (nI i) Q n (nI (i + (k + 1))) S) → (¬ (i + k < tn ∧ T (i + k) ≤ 8) → Q 0 S) → f_X6_hasSinsAt_2_n G 75 (nI i) Q (n + 1) (nI (i + k)) S := by
    intro n k hk w1 w0
    rw [f_X6_hasSinsAt_2_n]
    refine ite_n (by simp (disch := omega) only [lit, nI_add, pk_mul, leI, ltI, eqI]; omega) ?_
    by_cases hx : i + k < tn
    · have t8 := hT _ hx
      refine c_byte_y hC ht hx (ite_n (by simp (disch := omega) only [lit, nI_add, pk_mul, leI, ltI, eqI]; omega) ?_)
      by_cases h8 : T (i + k) ≤ 8
      · refine ite_y (by simp (disch := omega) only [lit, nI_add, pk_mul, leI, ltI, eqI]; omega) ?_
        rw [nI_1, show i + k + 1 = i + (k + 1) from by omega]; exact w1 ⟨hx, h8⟩
      · exact ite_n (by simp (disch := omega) only [lit, nI_add, pk_mul, leI, ltI, eqI]; omega) (w0 (fun h => h8 h.2))
    · exact c_byte_n hC ht (by omega) (by omega) (ite_y (by decide) (w0 (fun h => hx h.1)))
  refine ⟨5, st (k := 0) (by omega) (fun c0 => st (k := 1) (by omega) (fun c1 => st (k := 2) (by omega) (fun c2 => st (k := 3) (by omega) (fun c3 => ?_) (fun c => h0 (fun h => c ⟨by omega, h.2.2.2.2⟩))) (fun c => h0 (fun h => c ⟨by omega, h.2.2.2.1⟩))) (fun c => h0 (fun h => c ⟨by omega, h.2.2.1⟩))) (fun c => h0 (fun h => c ⟨by omega, h.2.1⟩))⟩
  rw [f_X6_hasSinsAt_2_n]
  exact ite_y (by simp (disch := omega) only [lit, nI_add, pk_mul, leI, ltI, eqI]; omega) (h1 ⟨by omega, c0.2, c1.2, c2.2, c3.2⟩)
theorem newP_u {q : Nat → Nat} {k : Nat} (hk : k < 4) (h6 : a 0 < 6) : up (newP a (fun j => if j < k then q j else 0)) (8 + (4 * a 0 + k)) (q k) = newP a (fun j => if j < k + 1 then q j else 0) := by
  funext i
  unfold up newP
  by_cases e : i = 8 + (4 * a 0 + k)
  · rw [if_pos e, if_neg (by omega), if_pos (by omega)]
    show _ = if _ then _ else _
    rw [if_pos (by omega)]; congr 1; omega
  · rw [if_neg e]
    by_cases e1 : 8 + 4 * a 0 ≤ i ∧ i < 12 + 4 * a 0
    · rw [if_neg (show ¬ i = 0 by omega), if_neg (show ¬ i = 0 by omega), if_pos e1, if_pos e1]
      show (if _ then _ else _) = if _ then _ else _
      by_cases e2 : i - (8 + 4 * a 0) < k
      · rw [if_pos e2, if_pos (by omega)]
      · rw [if_neg e2, if_neg (by omega)]
    · rw [if_neg e1, if_neg e1]
theorem newP_q {q q' : Nat → Nat} (h : ∀ k, k < 4 → q k = q' k) : newP a q = newP a q' := by
  funext i
  unfold newP
  by_cases e0 : i = 0
  · rw [if_pos e0, if_pos e0]
  rw [if_neg e0, if_neg e0]
  by_cases e1 : 8 + 4 * a 0 ≤ i ∧ i < 12 + 4 * a 0
  · rw [if_pos e1, if_pos e1, h _ (by omega)]
  · rw [if_neg e1, if_neg e1]
theorem C_addSinner {i : Nat} (hC : Cls G S a L I un u T tn fl m) (hV : Va a) (ht : tn ≤ 400) (hg : gdS T tn i) (h6 : a 0 < 6) (z : ∀ S', Cls G S' (newP a (fun k => T (i + k))) L I un u T tn fl m → OffR S S' → Z S') : f_X10_addSinner G 0 (nI i) Z S := by
  refine ex_y hC.1.r0_0 (c_addPerson hC.1.p1 hC.2.1 hV h6 (fun S1 f1 hP1 => ?_))
  have hC1 := hC.par (f1.mono (fun i hi => by omega)) hP1 (newP_2 h6)
  have o1 : OffR S S1 := Fr.offR f1 (by intro i hi; omega)
  have st : ∀ (n k : Nat) (S2 : St), n + k = 4 → Cls G S2 (newP a (fun j => if j < k then T (i + j) else 0)) L I un u T tn fl m → OffR S S2 → f_X10_addSinner_10_n G 0 (nI i) (nI (a 0)) Z (n + 1) (nI k) S2 := by
    intro n
    induction n with
    | zero =>
      intro k S2 hk hC2 o2
      have hk : k = 4 := by omega
      subst hk
      rw [newP_q (q := fun j => if j < 4 then T (i + j) else 0) (q' := fun j => T (i + j)) (fun j hj => if_pos hj)] at hC2
      exact ite_y (by simp (disch := omega) only [lit, nI_add, pk_mul, leI, ltI, eqI]; omega) (z S2 hC2 o2)
    | succ n ih =>
      intro k S2 hk hC2 o2
      rw [f_X10_addSinner_10_n]
      refine ite_n (by simp (disch := omega) only [lit, nI_add, pk_mul, leI, ltI, eqI]; omega) (ex_y hC2.1.r0_0 (ex_y hC2.1.r0_8 ?_))
      rw [nI_add, nI_1]
      have g8 := gdS_k hg (k := k) (by omega)
      have hv2 : Va (newP a (fun j => if j < k then T (i + j) else 0)) := newP_v hV h6 (fun j hj => by
        show (if _ then _ else _) ≤ 8
        split
        · exact gdS_k hg hj
        · omega)
      refine c_byte_y hC2 ht (by have := hg.1; omega) (c_setSin hC2.1.p1 hC2.2.1 hv2 (by show a 0 < (if _ then _ else _); rw [if_pos rfl]; omega) (by omega) ?_)
      rw [mxn8 g8]
      have hC3 := hC2.set (q := 1 + 1) (i := 4 * a 0 + k) (v := T (i + k)) (x := 8 + (4 * a 0 + k)) (by unfold pos; omega) (by omega)
      rw [newP_u (q := fun j => T (i + j)) (by omega) h6] at hC3
      exact ih (k + 1) _ (by omega) hC3 (o2.uI (by omega))
  refine ⟨5, st 4 0 S1 (by omega) ?_ o1⟩
  rw [newP_q (q := fun j => if j < 0 then T (i + j) else 0) (q' := fun _ => 0) (fun j hj => if_neg (by omega))]
  exact hC1
theorem upF_up {v w : Int32} {k : Nat} : upF (upF fl k v) k w = upF fl k w := by
  funext i; unfold upF; split <;> rfl
theorem C_row_l {c0 s0 : Nat} (hT : ∀ i, i < tn → T i ≤ 255) (ht : tn ≤ 400) (z : ∀ b c s S', (b, c, s) = rowS T tn 101 0 a 0 0 → Cls G S' b L I un u T 0 (flA (upF fl 1 (nI s))) m → OffR S S' → Q (nI c) S') (hC : Cls G S a L I un u T tn fl m) (hV : Va a) : f_X10_row_30 G 0 Q 0 0 0 S := by
  have st : ∀ (n i c s : Nat) (b : Rw) (S1 : St), 4 * n + i = 404 → c ≤ 1000 → s ≤ 1000 → c + n ≤ 1000 → s + n ≤ 1000 → Va b → rowS T tn n i b c s = rowS T tn 101 0 a 0 0 → Cls G S1 b L I un u T tn fl m → OffR S S1 → f_X10_row_30_n G 0 Q (n + 1) (nI c) (nI s) (nI i) S1 := by
    intro n
    induction n with
    | zero =>
      intro i c s b S1 hn hc hs hcn hsn hvb he hC1 o1
      rw [f_X10_row_30_n]
      have e1 : S1.1 75 1 = nI tn := hC1.2.2.2.2.2.2.1.1
      refine ex_y hC1.1.r0_8 ?_
      rw [e1]
      refine ite_y (by simp (disch := omega) only [lit, nI_add, pk_mul, leI, ltI, eqI]; omega) (ex_y hC1.1.r0_8 (nm_e (nm_e ?_)))
      refine C_accept ((hC1.tape0).flag (k := 1) (by omega)) (fun S2 hC2 o2 => z b c s S2 he hC2 (((o1.uI (by omega)).uI (by omega)).trans o2))
    | succ n ih =>
      intro i c s b S1 hn hc hs hcn hsn hvb he hC1 o1
      rw [f_X10_row_30_n]
      have e1 : S1.1 75 1 = nI tn := hC1.2.2.2.2.2.2.1.1
      refine ex_y hC1.1.r0_8 ?_
      rw [e1]
      rw [rowS] at he
      by_cases hi : tn ≤ i
      · rw [if_pos hi] at he
        refine ite_y (by simp (disch := omega) only [lit, nI_add, pk_mul, leI, ltI, eqI]; omega) (ex_y hC1.1.r0_8 (nm_e (nm_e ?_)))
        exact C_accept ((hC1.tape0).flag (k := 1) (by omega)) (fun S2 hC2 o2 => z b c s S2 he hC2 (((o1.uI (by omega)).uI (by omega)).trans o2))
      · rw [if_neg hi] at he
        refine ite_n (by simp (disch := omega) only [lit, nI_add, pk_mul, leI, ltI, eqI]; omega) (ex_y hC1.1.r0_8 ?_)
        rw [show (4 : Int32) = nI 4 from rfl, nI_add, nI_1, nI_1]
        refine c_hasSins hC1 ht (by omega) hT (fun hg => ite_n (by decide) (ex_y hC1.1.r0_0 ?_)) (fun hg => ite_y rfl ?_)
        · rw [hC1.2.1.1]
          have b6 := hvb.1
          by_cases h6 : b 0 < 6
          · rw [if_pos ⟨hg, h6⟩] at he
            refine ite_n (by simp (disch := omega) only [lit, nI_add, pk_mul, leI, ltI, eqI]; omega) (C_addSinner hC1 hvb ht hg h6 (fun S2 hC2 o2 => ?_))
            exact ih (i + 4) (c + 1) s _ S2 (by omega) (by omega) (by omega) (by omega) (by omega) (newP_v hvb h6 (fun k hk => gdS_k hg hk)) he hC2 (o1.trans o2)
          · rw [if_neg (fun h => h6 h.2)] at he
            exact ite_y (by simp (disch := omega) only [lit, nI_add, pk_mul, leI, ltI, eqI]; omega) (ih (i + 4) c (s + 1) b S1 (by omega) (by omega) (by omega) (by omega) (by omega) hvb he hC1 o1)
        · rw [if_neg (fun h => hg h.1)] at he
          exact ih (i + 4) c (s + 1) b S1 (by omega) (by omega) (by omega) (by omega) (by omega) hvb he hC1 o1
  exact ⟨102, st 101 0 0 0 a S (by omega) (by omega) (by omega) (by omega) (by omega) hV rfl hC (OffR.refl S)⟩
theorem M_row_l (hT : ∀ i, i < tn → T i ≤ 255) (ht : tn ≤ 400) (hV : Va a) (t97 : ∀ i, i < tn → S.1 97 i = nI (T i)) (z : ∀ b c s S', (b, c, s) = rowS T tn 101 0 a 0 0 → Ref G S' b L I 0 u T 0 (flA (upF fl 1 (nI s))) m → OffC S S' → Q (nI c) S') (hR : Ref G S a L I un u T 0 (upF fl 1 (nI 0)) m) : f_X11_row_35 G 87 (nI tn) Q 0 0 S := by
  have st : ∀ (n i c s : Nat) (b : Rw) (S1 : St), 4 * n + i = 404 → c ≤ 1000 → s ≤ 1000 → c + n ≤ 1000 → s + n ≤ 1000 → Va b → rowS T tn n i b c s = rowS T tn 101 0 a 0 0 → Ref G S1 b L I un u T 0 (upF fl 1 (nI s)) m → OffC S S1 → (∀ i, i < tn → S1.1 97 i = nI (T i)) → f_X11_row_35_n G 87 (nI tn) Q (n + 1) (nI c) (nI i) S1 := by
    intro n
    induction n with
    | zero =>
      intro i c s b S1 hn hc hs hcn hsn hvb he hC1 o1 h97
      rw [f_X11_row_35_n]
      exact ite_y (by simp (disch := omega) only [lit, nI_add, pk_mul, leI, ltI, eqI]; omega) (M_settled_y hC1 (nn0 (by omega)) (fun S2 hC2 o2 => z b c s S2 he hC2 (o1.trans o2)))
    | succ n ih =>
      intro i c s b S1 hn hc hs hcn hsn hvb he hC1 o1 h97
      rw [f_X11_row_35_n]
      rw [rowS] at he
      by_cases hi : tn ≤ i
      · rw [if_pos hi] at he
        exact ite_y (by simp (disch := omega) only [lit, nI_add, pk_mul, leI, ltI, eqI]; omega) (M_settled_y hC1 (nn0 (by omega)) (fun S2 hC2 o2 => z b c s S2 he hC2 (o1.trans o2)))
      · rw [if_neg hi] at he
        refine ite_n (by simp (disch := omega) only [lit, nI_add, pk_mul, leI, ltI, eqI]; omega) ?_
        have e12 : S1.1 87 12 = nI s := hC1.2.2.2.2.1.2.1
        have sk : ¬ (gdS T tn i ∧ b 0 < 6) → f_X11_row_90 G (f_X11_row_35_n G 87 (nI tn) Q (n + 1)) 87 (nI tn) (nI c) (nI i) Q S1 := by
          intro hno
          rw [if_neg hno] at he
          refine nm_e ?_
          rw [e12, nI_1, show (4 : Int32) = nI 4 from rfl, nI_add]
          have hC2 := hC1.flag (k := 1) (j := 12) (v := nI (s + 1)) (by omega)
          rw [upF_up] at hC2
          exact ih (i + 4) c (s + 1) b _ (by omega) (by omega) (by omega) (by omega) (by omega) hvb he hC2 (o1.uI (by omega) (by omega)) (fun i hi => by rw [uI_n _ _ _ _ (by omega)]; exact h97 i hi)
        by_cases h3 : tn ≤ i + 3
        · exact ite_y (by simp (disch := omega) only [lit, nI_add, pk_mul, leI, ltI, eqI]; omega) (sk (fun h => by have := h.1.1; omega))
        have hS := hC1.1.1
        have g0 := hT (i + 0) (by omega)
        have g1 := hT (i + 1) (by omega)
        have g2 := hT (i + 2) (by omega)
        have g3 := hT (i + 3) (by omega)
        refine ite_n (by simp (disch := omega) only [lit, nI_add, pk_mul, leI, ltI, eqI]; omega) ?_
        simp (disch := omega) only [show (3 : Int32) = nI 3 from rfl, show (2 : Int32) = nI 2 from rfl, show (4 : Int32) = nI 4 from rfl, nI_1, nI_add, clI]
        rw [show S1.1 = S1.1 from rfl]
        refine ex_y hS.tape ⟨by rw [hS.tape_l, in_iff (by omega)]; omega, ex_y hS.tape ⟨by rw [hS.tape_l, in_iff (by omega)]; omega, ex_y hS.tape ⟨by rw [hS.tape_l, in_iff (by omega)]; omega, ex_y hS.tape ⟨by rw [hS.tape_l, in_iff (by omega)]; omega, ?_⟩⟩⟩⟩
        rw [h97 i (by omega), h97 (i + 1) (by omega), h97 (i + 2) (by omega), h97 (i + 3) (by omega)]
        by_cases hg : gdS T tn i
        · have b6 := hvb.1
          by_cases h6 : b 0 < 6
          · rw [if_pos ⟨hg, h6⟩] at he
            refine m_come1 (q := fun k => T (i + k)) hC1 hg.2.1 hg.2.2.1 hg.2.2.2.1 hg.2.2.2.2 rfl rfl rfl rfl h6 (fun S2 hC2 o2 e2 _ => ite_n (by simp (disch := omega) only [lit, nI_add, pk_mul, leI, ltI, eqI]; omega) ?_)
            exact ih (i + 4) (c + 1) s _ S2 (by omega) (by omega) (by omega) (by omega) (by omega) (newP_v hvb h6 (fun k hk => gdS_k hg hk)) he hC2 (o1.trans o2) (fun i hi => by rw [e2 97 (by omega)]; exact h97 i hi)
          · exact m_come1_full hC1 hg.2.1 hg.2.2.1 hg.2.2.2.1 hg.2.2.2.2 (by omega) (ite_y (by decide) (sk (fun h => h6 h.2)))
        · have bad : if (-1 : Int32) < 0 then f_X11_row_90 G (f_X11_row_35_n G 87 (nI tn) Q (n + 1)) 87 (nI tn) (nI c) (nI i) Q S1 else f_X11_row_35_n G 87 (nI tn) Q (n + 1) (nI (c + 1)) (nI (i + 4)) S1 := ite_y (by decide) (sk (fun h => hg h.1))
          have mi : ∀ {x : Nat} {Q' : Int32 → St → Prop}, x ≤ 255 → (x ≤ 8 → Q' 1 S1) → (¬ x ≤ 8 → Q' 0 S1) → f_X11_in G (nI x).toInt64 0 8 Q' S1 := by
            intro x Q' hx w1 w0
            refine m_in (fun c1 c2 => w1 ?_) (fun c => w0 (fun h => c ?_))
            · rw [i32_64, nI_toInt (by omega)] at c2
              have : (8 : Int64).toInt = 8 := rfl
              omega
            · rw [i32_64, nI_toInt (by omega)]
              have : (8 : Int64).toInt = 8 := rfl
              have : (0 : Int64).toInt = 0 := rfl
              omega
          refine mi g0 (fun d0 => ite_n (by decide) (mi g1 (fun d1 => ite_n (by decide) (mi g2 (fun d2 => ite_n (by decide) (mi g3 (fun d3 => absurd ⟨by omega, d0, d1, d2, d3⟩ hg) (fun _ => ite_y rfl bad))) (fun _ => ite_y rfl bad))) (fun _ => ite_y rfl bad))) (fun _ => ite_y rfl bad)
  exact ⟨102, st 101 0 0 0 a S (by omega) (by omega) (by omega) (by omega) (by omega) hV rfl hR (OffC.refl S) t97⟩
theorem R_9 (h : Inv G S) (k : ∀ S', Inv G S' → K G S') : f_X10_row G 0 (fun r S1 => f_X11_row G 87 (fun r2 S2 => r = r2 ∧ K G S2) S1) S := by
  obtain ⟨a, L, I, un, u, T, tn, fl, m, hV, hC, hR⟩ := h
  have ht := hV.2.2.2.2.1
  have hT := hV.2.2.2.2.2.1
  have eC : S.1 75 1 = nI tn := hC.2.2.2.2.2.2.1.1
  have t0 : ∀ {S1 : St}, Ref G S1 a L I un u T tn fl m → Ref G (uI S1 87 14 0) a L I un u T 0 fl m := fun h => h.tap ⟨by rw [uI_s, if_pos rfl]; rfl, fun i hi => absurd hi (by omega)⟩ rfl (fun i h1 _ => uI_n _ _ _ _ h1) (fun q hq => by rw [uI_s, if_neg hq])
  refine ex_y hC.1.r0_8 ?_
  rw [eC]
  by_cases h0 : tn = 0
  · refine ite_y (by rw [h0]; rfl) (C_refuse (n := 6) hC (by omega) (by omega) (fun S1 hC1 o1 => nm_e ?_))
    have hR1 := (hR.offR o1).th
    refine nm_p (e' := nI tn) hR1.2.2.2.1.1 (nm_e (ite_y (by rw [h0]; rfl) ?_))
    subst h0
    exact M_tell_n (n := 6) (t0 hR1) (by omega) (by omega) (fun S3 hR3 o3 => ⟨rfl, k S3 (inv hV ((hC1.th.offC ((OffC.refl _).uI (by omega) (by omega))).offC o3) hR3)⟩)
  · refine ite_n (by rw [lit, eqI (by omega) (by omega)]; exact h0) (ex_y hC.1.r0_3 (C_empty hC (fun S1 hC1 o1 => ?_)))
    refine C_row_l (c0 := 0) (s0 := 0) hT ht (fun b c s S2 he hC2 o2 => nm_e ?_) hC1 hV.1
    have hR2 := (hR.offR (o1.trans o2)).th
    refine nm_p (e' := nI tn) hR2.2.2.2.1.1 (nm_e (ite_n (by rw [lit, eqI (by omega) (by omega)]; exact h0) (nm_e ?_)))
    have hR3 := (t0 hR2).flag (k := 1) (j := 12) (v := nI 0) (by omega)
    have oo : OffC (uI S2 87 0 0) (uI (uI (uI S2 87 0 0) 87 14 0) 87 12 (nI 0)) := ((OffC.refl _).uI (by omega) (by omega)).uI (by omega) (by omega)
    refine M_row_l hT ht hV.1 (fun i hi => by rw [uI_n _ _ _ _ (by omega), uI_n _ _ _ _ (by omega)]; exact hR2.2.2.2.1.2 i hi) (fun b' c' s' S4 he' hR4 o4 => ?_) hR3
    rw [← he] at he'
    cases he'
    have hv := rowS_v (T := T) (tn := tn) hV.1 101 0 0 0
    rw [← he] at hv
    exact ⟨rfl, k S4 (inv ((hV.set0 hv.1).tap (by omega) (fun i hi => absurd hi (by omega))) (hC2.th.offC (oo.trans o4)) hR4)⟩
end
