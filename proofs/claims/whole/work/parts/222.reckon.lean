-- needs: 200 201 202 203 210 211 220
/-! The reference reckons a segment. -/
def opR (ord : Bool) (x : Nat × Nat) : Nat := if x.1 = 0 then 0 else if x.1 = 1 then (if ord = true ∧ 4 ≤ x.2 then 5 + (x.2 - 4) / 6 else x.2 + 1) else if x.1 ≤ 9 then x.1 + 18 else if x.1 = 10 then 28 else if x.1 = 11 then 30 else 29
def agR (ord : Bool) (x : Nat × Nat) : Nat := if x.1 = 0 then x.2 else if x.1 = 1 then (if ord = true ∧ 4 ≤ x.2 then (x.2 - 4) % 6 else 0) else if x.1 ≤ 10 then 0 else x.2
def LkR (top : Nat) (S S' : St) : Prop := (∀ i k, ¬ (i = 87 ∧ k = 40) → S'.1 i k = S.1 i k) ∧ S'.1 87 40 = 0 ∧ S'.2.2 = S.2.2 ∧ (∀ i, i ≠ 109 → S'.2.1 i = S.2.1 i) ∧ ∀ k, k < top → S'.2.1 109 k = S.2.1 109 k
/-- it broke, or came to its end -/
def LkB (b : Int32) (S S' : St) : Prop := (∀ i k, ¬ (i = 87 ∧ k = 40) → S'.1 i k = S.1 i k) ∧ S'.1 87 40 = b ∧ S'.2.2 = S.2.2 ∧ (∀ i k, i ≠ 109 → ¬ (i = 87 ∧ k = 41) → S'.2.1 i k = S.2.1 i k)
theorem LkR.trans {t1 t2 : Nat} {S S' S'' : St} (h : LkR t1 S S') (h' : LkR t2 S' S'') (ht : t1 ≤ t2) : LkR t1 S S'' :=
  ⟨fun i k hk => (h'.1 i k hk).trans (h.1 i k hk), h'.2.1, h'.2.2.1.trans h.2.2.1, fun i hi => (h'.2.2.2.1 i hi).trans (h.2.2.2.1 i hi), fun k hk => (h'.2.2.2.2 k (by omega)).trans (h.2.2.2.2 k hk)⟩
theorem LkR.pu {top k : Nat} {S S' : St} {v : Int64} (h : LkR top S S') (hk : top ≤ k) : LkR top S (uJ S' 109 k v) :=
  ⟨h.1, h.2.1, h.2.2.1, fun i hi => (uJ_n S' 109 k v hi).trans (h.2.2.2.1 i hi), fun q hq => by rw [uJ_s, if_neg (by omega)]; exact h.2.2.2.2 q hq⟩
theorem LkR.u0 {top : Nat} {S S' : St} (h : LkR top S S') : LkR top S (uI S' 87 40 0) :=
  ⟨fun i k hk => (if_neg hk).trans (h.1 i k hk), by simp [uI], h.2.2.1, h.2.2.2.1, h.2.2.2.2⟩
theorem LkR.toB {top : Nat} {S S' : St} {b : Int32} {v : Int64} (h : LkR top S S') : LkB b S (uJ (uI S' 87 40 b) 87 41 v) :=
  ⟨fun i k hk => (if_neg hk).trans (h.1 i k hk), by simp [uI, uJ], h.2.2.1, fun i k hi hk => (if_neg hk).trans (congrFun (h.2.2.2.1 i hi) k)⟩
theorem LkR.toE {top : Nat} {S S' : St} {v : Int64} (h : LkR top S S') : LkB 0 S (uJ S' 87 41 v) :=
  ⟨h.1, h.2.1, h.2.2.1, fun i k hi hk => (if_neg hk).trans (congrFun (h.2.2.2.1 i hi) k)⟩
theorem LkB.of {top : Nat} {b : Int32} {S S' S'' : St} (h : LkR top S S') (h' : LkB b S' S'') : LkB b S S'' :=
  ⟨fun i k hk => (h'.1 i k hk).trans (h.1 i k hk), h'.2.1, h'.2.2.1.trans h.2.2.1, fun i k hi hk => (h'.2.2.2 i k hi hk).trans (congrFun (h.2.2.2.1 i hi) k)⟩
def GoodR (G : Gm) (S0 : St) (last : Nat) (e : Nat → Int64) (Q : St → Prop) (t i j h : Nat) (f : Fn) : Prop :=
  (i < j ∧ 1 ≤ h) ∧ ∀ (m n top : Nat) (S : St), LkR 0 S0 S → j ≤ last → top + h ≤ 400 → m + (j - i) ≤ n →
   (∀ v S' n', f e = some v → LkR top S S' → S'.2.1 109 top = v → m ≤ n' → f_X11_reckonAll_10_n G 87 (nI last) Q n' (nI (top + 1)) (nI j) S') →
   (f e = none → ∀ S', LkB 1 S S' → Q S') → 1 ≤ m →
   f_X11_reckonAll_10_n G 87 (nI last) Q n (nI top) (nI i) S
section
variable {G : Gm} {c : Cd} {e : Nat → Int64} {U : Nat → Prop} {Q : St → Prop} {S0 : St} {last : Nat} {ord : Bool}
theorem m_reckon {o : Nat} {x y : Int64} {S : St} {Q : Int64 → St → Prop} (h2 : 2 ≤ o) (h9 : o ≤ 9) (hz : S.1 87 40 = 0) (hy : ∀ v S', (S' = S ∨ S' = uI S 87 40 0) → ((jn o x y = some v ∧ -1000000000 ≤ v.toInt ∧ v.toInt ≤ 1000000000) ∨ (jn o x y = none ∧ ¬ (-1000000000 ≤ v.toInt ∧ v.toInt ≤ 1000000000))) → Q v S') (hn : jn o x y = none → Q 0 (uI S 87 40 1)) : f_X11_reckon G 87 (nI (o + 18)) x y Q S := by
  have r : ∀ (v : Int64) S', (S' = S ∨ S' = uI S 87 40 0) → jn o x y = rg v → Q v S' := by
    intro v S' hS hv
    by_cases hb : -1000000000 ≤ v.toInt ∧ v.toInt ≤ 1000000000
    · exact hy v S' hS (.inl ⟨by rw [hv]; exact if_pos hb, hb⟩)
    · exact hy v S' hS (.inr ⟨by rw [hv]; exact if_neg hb, hb⟩)
  have b1 : jn o x y = some 1 → Q 1 S := fun hz => hy _ S (.inl rfl) (.inl ⟨hz, by decide⟩)
  have b0 : jn o x y = some 0 → Q 0 S := fun hz => hy _ S (.inl rfl) (.inl ⟨hz, by decide⟩)
  have ho : o = 2 ∨ o = 3 ∨ o = 4 ∨ o = 5 ∨ o = 6 ∨ o = 7 ∨ o = 8 ∨ o = 9 := by omega
  unfold f_X11_reckon
  rcases ho with rfl | rfl | rfl | rfl | rfl | rfl | rfl | rfl
  · exact ite_y (by decide) (r _ S (.inl rfl) rfl)
  · exact ite_n (by decide) (ite_y (by decide) (r _ S (.inl rfl) rfl))
  · exact ite_n (by decide) (ite_n (by decide) (ite_y (by decide) (r _ S (.inl rfl) rfl)))
  · refine ite_n (by decide) (ite_n (by decide) (ite_n (by decide) (ite_y (by decide) (ite_c (fun d => ?_) (fun d => ?_)))))
    · rw [cmp_eq] at d
      refine ⟨.inr rfl, nm_e (ite_n ?_ (hn (by show (if y = 0 then none else _) = _; rw [if_pos d])))⟩
      show ¬ (1 : Int32) = 0
      decide
    · rw [cmp_eq] at d
      exact ⟨.inl rfl, nm_e (ite_y rfl ⟨d, r _ _ (.inr rfl) (by show (if y = 0 then none else _) = _; rw [if_neg d])⟩)⟩
  · refine ite_n (by decide) (ite_n (by decide) (ite_n (by decide) (ite_n (by decide) (ite_y (by decide) (ite_c (fun d => ?_) (fun d => ?_))))))
    · rw [cmp_eq] at d
      refine ⟨.inr rfl, nm_e (ite_n ?_ (hn (by show (if y = 0 then none else _) = _; rw [if_pos d])))⟩
      show ¬ (1 : Int32) = 0
      decide
    · rw [cmp_eq] at d
      exact ⟨.inl rfl, nm_e (ite_y rfl ⟨d, r _ _ (.inr rfl) (by show (if y = 0 then none else _) = _; rw [if_neg d])⟩)⟩
  · refine ite_n (by decide) (ite_n (by decide) (ite_n (by decide) (ite_n (by decide) (ite_n (by decide) (ite_y (by decide) (ite_c (fun d => ?_) (fun d => ?_)))))))
    · rw [cmp_ge] at d; exact b0 (by show some (if _ then _ else _) = _; rw [if_neg (by omega)])
    · rw [cmp_ge] at d; exact b1 (by show some (if _ then _ else _) = _; rw [if_pos (by omega)])
  · refine ite_n (by decide) (ite_n (by decide) (ite_n (by decide) (ite_n (by decide) (ite_n (by decide) (ite_n (by decide) (ite_y (by decide) (ite_c (fun d => ?_) (fun d => ?_))))))))
    · rw [cmp_le] at d; exact b0 (by show some (if _ then _ else _) = _; rw [if_neg (by omega)])
    · rw [cmp_le] at d; exact b1 (by show some (if _ then _ else _) = _; rw [if_pos (by omega)])
  · refine ite_n (by decide) (ite_n (by decide) (ite_n (by decide) (ite_n (by decide) (ite_n (by decide) (ite_n (by decide) (ite_n (by decide) (ite_c (fun d => ?_) (fun d => ?_))))))))
    · rw [cmp_eq] at d; exact b1 (by show some (if _ then _ else _) = _; rw [if_pos d])
    · rw [cmp_eq] at d; exact b0 (by show some (if _ then _ else _) = _; rw [if_neg d])
/-- what the reference's loop needs: its code is c, its words e -/
def CxR (G : Gm) (S0 : St) (last : Nat) (c : Cd) (e : Nat → Int64) (U : Nat → Prop) (ord : Bool) (Q : St → Prop) : Prop :=
  ShR G S0.2.2 ∧ last ≤ 400 ∧
  (∀ (n top k : Nat) (S : St), LkR 0 S0 S → k < last → top ≤ 400 → f_X11_reckonAll_95 G (f_X11_reckonAll_10_n G 87 (nI last) Q n) 87 (nI last) (nI top) (nI k) (nI (opR ord (c k))) (nI (agR ord (c k))) Q S → f_X11_reckonAll_10_n G 87 (nI last) Q (n + 1) (nI top) (nI k) S) ∧
  (∀ (n top k x : Nat) (S : St), LkR 0 S0 S → U x → top < 400 → (f_X11_reckonAll_10_n G 87 (nI last) Q n) (nI (top + 1)) (nI (k + 1)) (uJ S 109 top (e x)) → f_X11_reckonAll_95 G (f_X11_reckonAll_10_n G 87 (nI last) Q n) 87 (nI last) (nI top) (nI k) (nI (opR ord (1, x))) (nI (agR ord (1, x))) Q S)
theorem m_361 {S S1 : St} {n : Int32} {top : Nat} (hS : ShR G S0.2.2) (h0 : LkR 0 S0 S) (L : LkR top S S1) (kN : ∀ S', LkB 1 S S' → Q S') : f_X11_reckonAll_361 G 87 n Q (uI S1 87 40 1) := by
  unfold f_X11_reckonAll_361
  refine ite_c (fun _ => ?_) (fun _ => ?_)
  · exact nm_e (kN _ L.toB)
  · refine ex_y (i := 109) ?_ ⟨?_, ?_⟩
    · show S1.2.2 87 39 = _
      rw [L.2.2.1, h0.2.2.1]; exact hS.rest
    · rw [hS.rest_l]; exact (in_iff (k := 0) (by omega)).mpr (by omega)
    · exact nm_e (kN _ L.toB)
theorem m_broke {S S1 : St} {m n top : Nat} {v3 v4 : Int32} (hS : ShR G S0.2.2) (h0 : LkR 0 S0 S) (L : LkR top S S1) (hm : 1 ≤ m) (hn : m ≤ n) (kN : ∀ S', LkB 1 S S' → Q S') : f_X11_reckonAll_10_n G 87 (nI last) Q n v3 v4 (uI S1 87 40 1) := by
  obtain ⟨n1, rfl⟩ : ∃ n1, n = n1 + 1 := ⟨n - 1, by omega⟩
  have fin : ∀ v3, f_X11_reckonAll_361 G 87 v3 Q (uI S1 87 40 1) := fun v3 => m_361 hS h0 L kN
  show ite _ _ _
  refine ite_c (fun _ => fin _) (fun _ => ite_n ?_ (fin _))
  show ¬ (1 : Int32) = 0
  decide
theorem goodR (hC : CxR G S0 last c e U ord Q) : SegP c U (GoodR G S0 last e Q) := by
  obtain ⟨hS, hl4, hdr, hwd⟩ := hC
  have m1 : ∀ k, nI (k + 1) + (-1) = nI k := pk_m1
  have binp : ∀ (t : Nat) i j k o x h1 h2 f g, GoodR G S0 last e Q 0 i j h1 f → GoodR G S0 last e Q 0 j k h2 g → c k = (o, x) → 2 ≤ o → o ≤ 9 → GoodR G S0 last e Q t i (k + 1) (max h1 (h2 + 1)) (binF o f g) := by
    rintro t i j k o x h1 h2 f g ⟨⟨ha, ha1⟩, a⟩ ⟨⟨hb, hb1⟩, b⟩ hk l1 l2
    refine ⟨⟨by omega, by omega⟩, ?_⟩
    intro m n top S h0 hto htop hn kS kN hm
    refine a (m + (k + 1 - j)) n top S h0 (by omega) (by omega) (by omega) ?_ (fun hu => kN (by unfold binF; rw [hu])) (by omega)
    intro u S1 n1 hu L1 v1 hn1
    have h01 := h0.trans L1 (Nat.zero_le _)
    refine b (m + 1) n1 (top + 1) S1 h01 (by omega) (by omega) (by omega) ?_ (fun hu2 S' L' => kN (by unfold binF; rw [hu]; simp only []; rw [hu2]) S' (LkB.of L1 L')) (by omega)
    intro u2 S2 n2 hu2 L2 v2 hn2
    obtain ⟨n3, rfl⟩ : ∃ n3, n2 = n3 + 1 := ⟨n2 - 1, by omega⟩
    have L12 : LkR top S S2 := L1.trans L2 (by omega)
    have h02 := h0.trans L12 (Nat.zero_le _)
    refine hdr n3 (top + 1 + 1) k S2 h02 (by omega) (by omega) ?_
    have eo : opR ord (c k) = o + 18 := by rw [hk]; unfold opR; simp only []; rw [if_neg (by omega), if_neg (by omega), if_pos (by omega)]
    rw [eo]
    have r2 : S2.2.2 87 39 = some 109 := by rw [h02.2.2.1]; exact hS.rest
    refine ite_y ?_ (ite_n ?_ (ex_y r2 (ex_y r2 ?_)))
    · simp (disch := omega) only [lit, leI]; omega
    · simp (disch := omega) only [lit, leI]; omega
    rw [m1, show nI (top + 1) - 1 = nI top from nI_pred top, hS.rest_l, in_iff (by omega), clI (by omega), clI (by omega)]
    refine ⟨by omega, ex_y r2 ⟨by rw [hS.rest_l, in_iff (by omega)]; omega, ?_⟩⟩
    have ev1 : S2.2.1 109 top = u := (L2.2.2.2.2 top (by omega)).trans v1
    rw [ev1, v2]
    have eb : binF o f g e = jn o u u2 := by unfold binF; rw [hu]; simp only []; rw [hu2]
    have hz : S2.1 87 40 = 0 := h02.2.1
    refine m_reckon l1 l2 hz ?_ ?_
    · intro v S3 hS3 hv
      have L3 : LkR top S S3 := by
        rcases hS3 with rfl | rfl
        · exact L12
        · exact L12.u0
      refine ⟨by omega, nm_e (ite_y ?_ ?_)⟩
      · exact L3.2.1
      · refine ex_y (i := 109) ?_ ?_
        · show S3.2.2 87 39 = _
          rw [L3.2.2.1, h0.2.2.1]; exact hS.rest
        rw [hS.rest_l, in_iff (by omega), uJ_s, if_pos rfl]
        refine ⟨by omega, m_in ?_ ?_⟩
        · intro hb1 hb2
          have hb1 : (-1000000000 : Int) ≤ v.toInt := hb1
          have hb2 : v.toInt ≤ (1000000000 : Int) := hb2
          refine ite_n (by decide) ⟨.inl rfl, nm_e ?_⟩
          rw [nI_1]
          rcases hv with ⟨hv, _⟩ | ⟨_, hb⟩
          · refine kS v _ n3 (eb.trans hv) (L3.pu (Nat.le_refl _)).u0 ?_ (by omega)
            show (uJ S3 109 top v).2.1 109 top = v
            rw [uJ_s, if_pos rfl]
          · exact absurd ⟨hb1, hb2⟩ hb
        · intro hb
          refine ite_y rfl ⟨.inr rfl, nm_e ?_⟩
          rcases hv with ⟨_, hb1, hb2⟩ | ⟨hv, _⟩
          · exact absurd ⟨hb1, hb2⟩ hb
          · exact m_broke hS h0 (L3.pu (Nat.le_refl _)) hm (by omega) (kN (eb.trans hv))
    · intro hv
      refine ⟨by omega, nm_e (ite_n ?_ ?_)⟩
      · show ¬ (1 : Int32) = 0
        decide
      · refine ⟨.inr rfl, nm_e ?_⟩
        have e1 : uI (uJ (uI S2 87 40 1) 109 top 0) 87 40 1 = uI (uJ S2 109 top 0) 87 40 1 := by
          unfold uI uJ
          simp only [Prod.mk.injEq, and_true]
          funext a b
          split <;> rfl
        rw [e1]
        exact m_broke hS h0 (L12.pu (Nat.le_refl _)) hm (by omega) (kN (eb.trans hv))
  refine ⟨?_, ?_, ?_, ?_, ?_, ?_⟩
  · intro k x hk hx
    refine ⟨⟨by omega, by omega⟩, ?_⟩
    intro m n top S h0 hto htop hn kS kN hm
    obtain ⟨n1, rfl⟩ : ∃ n1, n = n1 + 1 := ⟨n - 1, by omega⟩
    refine hdr n1 top k S h0 (by omega) (by omega) ?_
    rw [hk]
    refine ite_n (by show ¬ (20 ≤ nI 0); decide) (ex_y (by rw [h0.2.2.1]; exact hS.rest) (ite_y rfl ?_))
    show _ ∧ _
    rw [hS.rest_l, in_iff (by omega)]
    refine ⟨by omega, nm_e ?_⟩
    rw [clI (by omega), nI_1, nI_1, show agR ord (0, x) = x from rfl, nI_l (by omega)]
    have L : LkR top S S := ⟨fun _ _ _ => rfl, h0.2.1, rfl, fun _ _ => rfl, fun _ _ => rfl⟩
    exact kS (lN x) _ n1 rfl (L.pu (Nat.le_refl _)) (by rw [uJ_s, if_pos rfl]) (by omega)
  · intro k x hk hx
    refine ⟨⟨by omega, by omega⟩, ?_⟩
    intro m n top S h0 hto htop hn kS kN hm
    obtain ⟨n1, rfl⟩ : ∃ n1, n = n1 + 1 := ⟨n - 1, by omega⟩
    refine hdr n1 top k S h0 (by omega) (by omega) ?_
    rw [hk]
    refine hwd n1 top k x S h0 hx (by omega) ?_
    have L : LkR top S S := ⟨fun _ _ _ => rfl, h0.2.1, rfl, fun _ _ => rfl, fun _ _ => rfl⟩
    exact kS (e x) _ n1 rfl (L.pu (Nat.le_refl _)) (by rw [uJ_s, if_pos rfl]) (by omega)
  · intro i j k o x h1 h2 f g a b hk l1 l2
    exact binp 0 i j k o x h1 h2 f g a b hk l1 (by omega)
  · intro i j k o x h1 h2 f g a b hk l1 l2
    exact binp 1 i j k o x h1 h2 f g a b hk (by omega) l2
  · rintro i j x h f ⟨⟨ha, ha1⟩, a⟩ hk
    refine ⟨⟨by omega, by omega⟩, ?_⟩
    intro m n top S h0 hto htop hn kS kN hm
    refine a (m + 1) n top S h0 (by omega) (by omega) (by omega) ?_ (fun hu => kN (by unfold notF; rw [hu])) (by omega)
    intro u S1 n1 hu L1 v1 hn1
    obtain ⟨n2, rfl⟩ : ∃ n2, n1 = n2 + 1 := ⟨n1 - 1, by omega⟩
    have h01 := h0.trans L1 (Nat.zero_le _)
    refine hdr n2 (top + 1) j S1 h01 (by omega) (by omega) ?_
    rw [hk]
    have r2 : S1.2.2 87 39 = some 109 := by rw [h01.2.2.1]; exact hS.rest
    refine ite_y (by show 20 ≤ nI 28; decide) (ite_y (by show 28 ≤ nI 28; decide) (ite_y rfl (ex_y r2 (ex_y r2 ?_))))
    rw [show nI (top + 1) - 1 = nI top from nI_pred top, hS.rest_l, in_iff (by omega), clI (by omega), v1]
    refine ⟨by omega, by omega, nm_e ?_⟩
    rw [nI_1]
    exact kS (1 - u) _ n2 (by unfold notF; rw [hu]) (L1.pu (Nat.le_refl _)) (by rw [uJ_s, if_pos rfl]) (by omega)
  · rintro i j k o h1 h2 f g ⟨⟨ha, ha1⟩, a⟩ hk ho ⟨⟨hb, hb1⟩, b⟩
    refine ⟨⟨by omega, by omega⟩, ?_⟩
    intro m n top S h0 hto htop hn kS kN hm
    refine a (m + (k - j)) n top S h0 (by omega) (by omega) (by omega) ?_ (fun hu => kN (by unfold orF; rw [hu])) (by omega)
    intro u S1 n1 hu L1 v1 hn1
    obtain ⟨n2, rfl⟩ : ∃ n2, n1 = n2 + 1 := ⟨n1 - 1, by omega⟩
    have h01 := h0.trans L1 (Nat.zero_le _)
    refine hdr n2 (top + 1) j S1 h01 (by omega) (by omega) ?_
    rw [hk]
    have r2 : S1.2.2 87 39 = some 109 := by rw [h01.2.2.1]; exact hS.rest
    have ag : agR ord (o, k) = k := by unfold agR; simp only []; rw [if_neg (by omega), if_neg (by omega), if_neg (by omega)]
    rw [ag]
    have go : ∀ (b : Int64), b = (if o = 11 then 1 else 0) → f_X11_reckonAll_344 G (f_X11_reckonAll_10_n G 87 (nI last) Q n2) 87 (nI last) (nI (top + 1)) (nI j + 1) (nI k) b u Q S1 := by
      intro b0 hb0
      unfold f_X11_reckonAll_344
      rw [hb0]
      refine ite_c (fun d => ?_) (fun d => ?_)
      · rw [cmp_eq] at d
        exact kS u S1 n2 (by unfold orF; rw [hu]; show (if _ then _ else _) = _; rw [if_pos d]) L1 v1 (by omega)
      · rw [cmp_eq] at d
        rw [m1, nI_1]
        have eo : orF o f g e = g e := by unfold orF; rw [hu]; show (if _ then _ else _) = _; rw [if_neg d]
        refine b m n2 top S1 h01 (by omega) (by omega) (by omega) ?_ (fun hu2 S' L' => kN (eo.trans hu2) S' (LkB.of L1 L')) hm
        intro u2 S2 n3 hu2 L2 v2 hn3
        exact kS u2 S2 n3 (eo.trans hu2) (L1.trans L2 (Nat.le_refl _)) v2 hn3
    rcases ho with rfl | rfl
    · refine ite_y (by show 20 ≤ nI 30; decide) (ite_y (by show 28 ≤ nI 30; decide) (ite_n (by show ¬ nI 30 = 28; decide) (ex_y r2 ?_)))
      rw [show nI (top + 1) - 1 = nI top from nI_pred top, hS.rest_l, in_iff (by omega), clI (by omega), v1]
      exact ⟨by omega, ite_n (by show ¬ nI 30 = 29; decide) (go 1 rfl)⟩
    · refine ite_y (by show 20 ≤ nI 29; decide) (ite_y (by show 28 ≤ nI 29; decide) (ite_n (by show ¬ nI 29 = 28; decide) (ex_y r2 ?_)))
      rw [show nI (top + 1) - 1 = nI top from nI_pred top, hS.rest_l, in_iff (by omega), clI (by omega), v1]
      exact ⟨by omega, ite_y rfl (go 0 rfl)⟩
end
