-- needs: 200 220
/-! The class reckons a segment. -/
def agC (x : Nat × Nat) : Nat := if 11 ≤ x.1 then 2 * x.2 else x.2
def CxC (G : Gm) (M : Nat → Nat → Int32) (R : Nat → Nat → Option Nat) (s w cd to : Nat) (c : Cd) (e : Nat → Int64) (U : Nat → Prop) : Prop :=
  R s 0 = some (s + 1) ∧ G.2.1 (s + 1) = 32 ∧ to ≤ G.2.1 cd ∧ G.2.1 cd ≤ 800 ∧ (∀ k, 2 * k + 2 ≤ to → M cd (2 * k) = nI (c k).1 ∧ M cd (2 * k + 1) = nI (agC (c k))) ∧ G.2.1 w ≤ 100 ∧ (∀ x, U x → x < G.2.1 w ∧ (M w x).toInt64 = e x)
def Lk (s top : Nat) (S S' : St) : Prop := S'.1 = S.1 ∧ S'.2.2 = S.2.2 ∧ (∀ i, i ≠ s + 1 → S'.2.1 i = S.2.1 i) ∧ ∀ k, k < top → S'.2.1 (s + 1) k = S.2.1 (s + 1) k
theorem Lk.refl (s top : Nat) (S : St) : Lk s top S S := ⟨rfl, rfl, fun _ _ => rfl, fun _ _ => rfl⟩
theorem Lk.trans {s t1 t2 : Nat} {S S' S'' : St} (h : Lk s t1 S S') (h' : Lk s t2 S' S'') (ht : t1 ≤ t2) : Lk s t1 S S'' :=
  ⟨h'.1.trans h.1, h'.2.1.trans h.2.1, fun i hi => (h'.2.2.1 i hi).trans (h.2.2.1 i hi), fun k hk => (h'.2.2.2 k (by omega)).trans (h.2.2.2 k hk)⟩
theorem Lk.uJ {s top k : Nat} {S S' : St} {v : Int64} (h : Lk s top S S') (hk : top ≤ k) : Lk s top S (uJ S' (s + 1) k v) :=
  ⟨h.1, h.2.1, fun i hi => (uJ_n S' (s + 1) k v hi).trans (h.2.2.1 i hi), fun q hq => by rw [uJ_s, if_neg (by omega)]; exact h.2.2.2 q hq⟩
def GoodC (G : Gm) (M : Nat → Nat → Int32) (R : Nat → Nat → Option Nat) (s w cd to : Nat) (e : Nat → Int64) (Q : Int32 → St → Prop) (t i j h : Nat) (f : Fn) : Prop :=
  (i < j ∧ 1 ≤ h) ∧ ∀ (m n top cnt : Nat) (S : St), S.1 = M → S.2.2 = R → 2 * j ≤ to → top + h ≤ 32 → cnt + (j - i) ≤ 400 → m + (j - i) ≤ n →
   (∀ v S' n' cnt', f e = some v → Lk s top S S' → S'.2.1 (s + 1) top = v → m ≤ n' → cnt' ≤ cnt + (j - i) → f_X7_worth_15_n G s (nI to) w cd Q n' (nI (top + 1)) (nI (2 * j)) (nI cnt') S') →
   (f e = none → ∀ S', Lk s top S S' → Q (-2147483648) S') →
   f_X7_worth_15_n G s (nI to) w cd Q n (nI top) (nI (2 * i)) (nI cnt) S
section
variable {G : Gm} {M : Nat → Nat → Int32} {R : Nat → Nat → Option Nat} {s w cd to : Nat} {c : Cd} {e : Nat → Int64} {U : Nat → Prop} {Q : Int32 → St → Prop} {S : St}
theorem c_joined {o : Nat} {x y : Int64} {Q : Int64 → St → Prop} (h2 : 2 ≤ o) (h9 : o ≤ 9) (h : ∀ v, (jn o x y = some v ∧ -1000000000 ≤ v.toInt ∧ v.toInt ≤ 1000000000) ∨ (jn o x y = none ∧ ¬ (-1000000000 ≤ v.toInt ∧ v.toInt ≤ 1000000000)) → Q v S) : f_X7_joined G (nI o) x y Q S := by
  have r : ∀ v : Int64, jn o x y = rg v → Q v S := by
    intro v hv
    by_cases hb : -1000000000 ≤ v.toInt ∧ v.toInt ≤ 1000000000
    · exact h v (.inl ⟨by rw [hv]; exact if_pos hb, hb⟩)
    · exact h v (.inr ⟨by rw [hv]; exact if_neg hb, hb⟩)
  have z : jn o x y = none → Q 1000000001 S := fun hz => h _ (.inr ⟨hz, by decide⟩)
  have b1 : jn o x y = some 1 → Q 1 S := fun hz => h _ (.inl ⟨hz, by decide⟩)
  have b0 : jn o x y = some 0 → Q 0 S := fun hz => h _ (.inl ⟨hz, by decide⟩)
  have ho : o = 2 ∨ o = 3 ∨ o = 4 ∨ o = 5 ∨ o = 6 ∨ o = 7 ∨ o = 8 ∨ o = 9 := by omega
  unfold f_X7_joined
  rcases ho with rfl | rfl | rfl | rfl | rfl | rfl | rfl | rfl
  · exact ite_y (by decide) (r _ rfl)
  · exact ite_n (by decide) (ite_y (by decide) (r _ rfl))
  · exact ite_n (by decide) (ite_n (by decide) (ite_y (by decide) (r _ rfl)))
  · refine ite_n (by decide) (ite_n (by decide) (ite_n (by decide) (ite_y (by decide) (ite_c (fun d => ?_) (fun d => ?_)))))
    · rw [cmp_eq] at d; exact z (by show (if y = 0 then none else _) = _; rw [if_pos d])
    · rw [cmp_eq] at d; exact ⟨d, r _ (by show (if y = 0 then none else _) = _; rw [if_neg d])⟩
  · refine ite_n (by decide) (ite_n (by decide) (ite_n (by decide) (ite_n (by decide) (ite_y (by decide) (ite_c (fun d => ?_) (fun d => ?_))))))
    · rw [cmp_eq] at d; exact z (by show (if y = 0 then none else _) = _; rw [if_pos d])
    · rw [cmp_eq] at d; exact ⟨d, r _ (by show (if y = 0 then none else _) = _; rw [if_neg d])⟩
  · refine ite_n (by decide) (ite_n (by decide) (ite_n (by decide) (ite_n (by decide) (ite_n (by decide) (ite_y (by decide) (ite_c (fun d => ?_) (fun d => ?_)))))))
    · rw [cmp_ge] at d; exact b0 (by show some (if _ then _ else _) = _; rw [if_neg (by omega)])
    · rw [cmp_ge] at d; exact b1 (by show some (if _ then _ else _) = _; rw [if_pos (by omega)])
  · refine ite_n (by decide) (ite_n (by decide) (ite_n (by decide) (ite_n (by decide) (ite_n (by decide) (ite_n (by decide) (ite_y (by decide) (ite_c (fun d => ?_) (fun d => ?_))))))))
    · rw [cmp_le] at d; exact b0 (by show some (if _ then _ else _) = _; rw [if_neg (by omega)])
    · rw [cmp_le] at d; exact b1 (by show some (if _ then _ else _) = _; rw [if_pos (by omega)])
  · refine ite_n (by decide) (ite_n (by decide) (ite_n (by decide) (ite_n (by decide) (ite_n (by decide) (ite_n (by decide) (ite_n (by decide) (ite_c (fun d => ?_) (fun d => ?_))))))))
    · rw [cmp_eq] at d; exact b1 (by show some (if _ then _ else _) = _; rw [if_pos d])
    · rw [cmp_eq] at d; exact b0 (by show some (if _ then _ else _) = _; rw [if_neg d])
theorem goodC (hC : CxC G M R s w cd to c e U) : SegP c U (GoodC G M R s w cd to e Q) := by
  obtain ⟨hs, hl, ht, hd, hcode, hw, hU⟩ := hC
  have m1 : ∀ k, nI (k + 1) + (-1) = nI k := pk_m1
  have hdr : ∀ (n top cnt k : Nat) (S : St), S.1 = M → 2 * k + 2 ≤ to → cnt < 400 → top ≤ 32 →
      (if nI (c k).1 = 0 then f_X7_worth_74 G (f_X7_worth_15_n G s (nI to) w cd Q n) s (nI to) w cd (nI top) (nI (2 * (k + 1))) (nI cnt) (nI (c k).1) (nI (agC (c k))) Q S else (if nI (c k).1 = 1 then f_X7_worth_74 G (f_X7_worth_15_n G s (nI to) w cd Q n) s (nI to) w cd (nI top) (nI (2 * (k + 1))) (nI cnt) (nI (c k).1) (nI (agC (c k))) Q S else (if (nI top) < 1 then f_X7_worth_129 G (f_X7_worth_15_n G s (nI to) w cd Q n) Q S else (if (nI top) ≤ 32 then (if nI (c k).1 = 10 then (∃ a32, S.2.2 s 0 = some a32 ∧ (∃ a33, S.2.2 s 0 = some a33 ∧ (vp_in ((nI top) - 1) (G.2.1 a33) ∧ (vp_in ((nI top) - 1) (G.2.1 a32) ∧ ∀ S36, S36 = uJ S a32 ((nI top) - 1).toNatClampNeg (1 - (S.2.1 a33 ((nI top) - 1).toNatClampNeg)) → (f_X7_worth_15_n G s (nI to) w cd Q n) (nI top) (nI (2 * (k + 1))) (nI (cnt + 1)) S36)))) else (if nI (c k).1 = 11 then f_X7_worth_176 G (f_X7_worth_15_n G s (nI to) w cd Q n) s (nI to) w cd (nI top) (nI (2 * (k + 1))) (nI cnt) (nI (c k).1) (nI (agC (c k))) Q S else (if nI (c k).1 = 12 then f_X7_worth_176 G (f_X7_worth_15_n G s (nI to) w cd Q n) s (nI to) w cd (nI top) (nI (2 * (k + 1))) (nI cnt) (nI (c k).1) (nI (agC (c k))) Q S else (if 2 ≤ (nI top) then (∃ a17, S.2.2 s 0 = some a17 ∧ (∃ a18, S.2.2 s 0 = some a18 ∧ (vp_in (((nI top) + (-1)) - 1) (G.2.1 a18) ∧ (∃ a20, S.2.2 s 0 = some a20 ∧ (vp_in ((nI top) + (-1)) (G.2.1 a20) ∧ f_X7_joined G (nI (c k).1) (S.2.1 a18 (((nI top) + (-1)) - 1).toNatClampNeg) (S.2.1 a20 ((nI top) + (-1)).toNatClampNeg) (fun r23 S22 => (vp_in (((nI top) + (-1)) - 1) (G.2.1 a17) ∧ ∀ S25, S25 = uJ S22 a17 (((nI top) + (-1)) - 1).toNatClampNeg r23 → (∃ a26, S25.2.2 s 0 = some a26 ∧ (vp_in (((nI top) + (-1)) - 1) (G.2.1 a26) ∧ (if 0 < (lg_cmp (S25.2.1 a26 (((nI top) + (-1)) - 1).toNatClampNeg) 1000000000) then f_X7_worth_316 G (f_X7_worth_15_n G s (nI to) w cd Q n) Q S25 else (∃ a29, S25.2.2 s 0 = some a29 ∧ (vp_in (((nI top) + (-1)) - 1) (G.2.1 a29) ∧ (if 0 ≤ (lg_cmp (S25.2.1 a29 (((nI top) + (-1)) - 1).toNatClampNeg) (-1000000000)) then (f_X7_worth_15_n G s (nI to) w cd Q n) ((nI top) + (-1)) (nI (2 * (k + 1))) (nI (cnt + 1)) S25 else f_X7_worth_316 G (f_X7_worth_15_n G s (nI to) w cd Q n) Q S25)))))))) S))))) else Q (-2147483648) S)))) else f_X7_worth_129 G (f_X7_worth_15_n G s (nI to) w cd Q n) Q S)))) → f_X7_worth_15_n G s (nI to) w cd Q (n + 1) (nI top) (nI (2 * k)) (nI cnt) S := by
    intro n top cnt k S hM hk hc htop z
    obtain ⟨c1, c2⟩ := hcode k hk
    show ite _ _ _
    refine ite_n (by simp (disch := omega) only [lit, nI_add, pk_mul, leI, ltI, eqI]; omega) (ite_n (by simp (disch := omega) only [lit, nI_add, pk_mul, leI, ltI, eqI]; omega) (ite_n (by simp (disch := omega) only [lit, nI_add, pk_mul, leI, ltI, eqI]; omega) (ite_n ?_ ⟨?_, nm_p (e' := nI (c k).1) ?_ ⟨?_, nm_p (e' := nI (agC (c k))) ?_ ?_⟩⟩)))
    · rw [nI_1, leI (by omega) (by omega)]; omega
    · rw [in_iff (by omega)]; omega
    · rw [clI (by omega), hM]; exact c1
    · rw [nI_1, in_iff (by omega)]; omega
    · rw [nI_1, clI (by omega), hM]; exact c2
    · rw [show nI (2 * k) + 2 = nI (2 * (k + 1)) from by rw [lit, nI_add]; rfl, nI_1 cnt]
      exact z
  have step : ∀ (n top cnt k : Nat) (v : Int64) (S : St), S.2.2 = R → top < 32 → f_X7_worth_15_n G s (nI to) w cd Q n (nI (top + 1)) (nI (2 * (k + 1))) (nI (cnt + 1)) (uJ S (s + 1) top v) → f_X7_worth_109 G (f_X7_worth_15_n G s (nI to) w cd Q n) s (nI to) w cd (nI top) (nI (2 * (k + 1))) (nI cnt) v (nI top) (s + 1) Q S := by
    intro n top cnt k v S hR htop z
    refine ⟨by rw [hl, in_iff (by omega)]; omega, nm_e ?_⟩
    rw [clI (by omega), nI_1, nI_1]
    exact z
  have binp : ∀ (t : Nat) i j k o x h1 h2 f g, GoodC G M R s w cd to e Q 0 i j h1 f → GoodC G M R s w cd to e Q 0 j k h2 g → c k = (o, x) → 2 ≤ o → o ≤ 9 → GoodC G M R s w cd to e Q t i (k + 1) (max h1 (h2 + 1)) (binF o f g) := by
    rintro t i j k o x h1 h2 f g ⟨⟨ha, ha1⟩, a⟩ ⟨⟨hb, hb1⟩, b⟩ hk l1 l2
    refine ⟨⟨by omega, by omega⟩, ?_⟩
    intro m n top cnt S hM hR hto htop hcnt hn kS kN
    refine a (m + (k + 1 - j)) n top cnt S hM hR (by omega) (by omega) (by omega) (by omega) ?_ ?_
    · intro u S1 n1 cnt1 hu L1 v1 hn1 hc1
      refine b (m + 1) n1 (top + 1) cnt1 S1 (L1.1.trans hM) (L1.2.1.trans hR) (by omega) (by omega) (by omega) (by omega) ?_ ?_
      · intro u2 S2 n2 cnt2 hu2 L2 v2 hn2 hc2
        obtain ⟨n3, rfl⟩ : ∃ n3, n2 = n3 + 1 := ⟨n2 - 1, by omega⟩
        have L12 : Lk s top S S2 := L1.trans L2 (by omega)
        refine hdr n3 (top + 1 + 1) cnt2 k S2 (L12.1.trans hM) (by omega) (by omega) (by omega) ?_
        rw [hk]
        have r2 : S2.2.2 s 0 = some (s + 1) := by rw [L12.2.1, hR]; exact hs
        refine ite_n ?_ (ite_n ?_ (ite_n ?_ (ite_y ?_ (ite_n ?_ (ite_n ?_ (ite_n ?_ (ite_y ?_ (ex_y r2 (ex_y r2 ?_)))))))))
        · simp (disch := omega) only [lit, eqI]; omega
        · simp (disch := omega) only [lit, eqI]; omega
        · simp (disch := omega) only [lit, ltI]; omega
        · simp (disch := omega) only [lit, leI]; omega
        · simp (disch := omega) only [lit, eqI]; omega
        · simp (disch := omega) only [lit, eqI]; omega
        · simp (disch := omega) only [lit, eqI]; omega
        · simp (disch := omega) only [lit, leI]; omega
        rw [m1, show nI (top + 1) - 1 = nI top from nI_pred top, hl, in_iff (by omega), clI (by omega), clI (by omega)]
        refine ⟨by omega, ex_y r2 ⟨by rw [hl, in_iff (by omega)]; omega, ?_⟩⟩
        have ev1 : S2.2.1 (s + 1) top = u := (L2.2.2.2 top (by omega)).trans v1
        rw [ev1, v2]
        refine c_joined l1 l2 (fun v hv => ⟨by omega, nm_e ?_⟩)
        refine ex_y (i := s + 1) r2 ?_
        rw [hl, in_iff (by omega)]
        refine ⟨by omega, ?_⟩
        rw [uJ_s, if_pos rfl]
        have Lz : Lk s top S (uJ S2 (s + 1) top v) := L12.uJ (Nat.le_refl _)
        have eb : binF o f g e = jn o u u2 := by unfold binF; rw [hu]; simp only []; rw [hu2]
        rcases hv with ⟨hv, hb1, hb2⟩ | ⟨hv, hb⟩
        · refine ite_n (by rw [cmp_gt]; show ¬ (1000000000 : Int) < _; omega) ?_
          refine ex_y (i := s + 1) r2 ?_
          rw [hl, in_iff (by omega), uJ_s, if_pos rfl]
          refine ⟨by omega, ite_y (by rw [cmp_ge]; exact hb1) ?_⟩
          exact kS v _ n3 (cnt2 + 1) (eb.trans hv) Lz (by rw [uJ_s, if_pos rfl]) (by omega) (by omega)
        · have fin := kN (eb.trans hv) _ Lz
          refine ite_c (fun _ => fin) (fun hg => ?_)
          rw [cmp_gt] at hg
          refine ex_y (i := s + 1) r2 ?_
          rw [hl, in_iff (by omega), uJ_s, if_pos rfl]
          refine ⟨by omega, ite_n ?_ fin⟩
          rw [cmp_ge]
          intro h'
          have h' : (-1000000000 : Int) ≤ v.toInt := h'
          have hg : ¬ (1000000000 : Int) < v.toInt := hg
          exact hb ⟨h', by omega⟩
      · intro hu2 S2 L2
        refine kN ?_ S2 (L1.trans L2 (by omega))
        unfold binF; rw [hu]; simp only []; rw [hu2]
    · intro hu S1 L1
      exact kN (by unfold binF; rw [hu]) S1 L1
  refine ⟨?_, ?_, ?_, ?_, ?_, ?_⟩
  · intro k x hk hx
    refine ⟨⟨by omega, by omega⟩, ?_⟩
    intro m n top cnt S hM hR hto htop hcnt hn kS kN
    obtain ⟨n1, rfl⟩ : ∃ n1, n = n1 + 1 := ⟨n - 1, by omega⟩
    refine hdr n1 top cnt k S hM (by omega) (by omega) (by omega) ?_
    rw [hk]
    refine ite_y rfl ?_
    refine ite_y (by simp (disch := omega) only [lit, nI_add, pk_mul, leI, ltI, eqI]; omega) (ex_y (by rw [hR]; exact hs) (ite_y rfl ?_))
    rw [show agC (0, x) = x from rfl, nI_l (by omega)]
    refine step n1 top cnt k _ S hR (by omega) ?_
    exact kS (lN x) _ n1 (cnt + 1) rfl ((Lk.refl s top S).uJ (Nat.le_refl _)) (by rw [uJ_s, if_pos rfl]) (by omega) (by omega)
  · intro k x hk hx
    refine ⟨⟨by omega, by omega⟩, ?_⟩
    intro m n top cnt S hM hR hto htop hcnt hn kS kN
    obtain ⟨n1, rfl⟩ : ∃ n1, n = n1 + 1 := ⟨n - 1, by omega⟩
    refine hdr n1 top cnt k S hM (by omega) (by omega) (by omega) ?_
    rw [hk]
    refine ite_n (by show ¬ (nI 1 = 0); decide) (ite_y rfl ?_)
    refine ite_y (by simp (disch := omega) only [lit, nI_add, pk_mul, leI, ltI, eqI]; omega) (ex_y (by rw [hR]; exact hs) (ite_n (by show ¬ (nI 1 = 0); decide) ?_))
    rw [show agC (1, x) = x from rfl]
    obtain ⟨x1, x2⟩ := hU x hx
    unfold f_X7_wordAt
    refine ite_n (by simp (disch := omega) only [lit, nI_add, pk_mul, leI, ltI, eqI]; omega) (ite_n (by rw [leI (by omega) (by omega)]; omega) ⟨by rw [in_iff (by omega)]; exact x1, ?_⟩)
    rw [clI (by omega), hM]
    show f_X7_worth_109 _ _ _ _ _ _ _ _ _ (M w x).toInt64 _ _ _ _
    rw [x2]
    refine step n1 top cnt k _ S hR (by omega) ?_
    exact kS (e x) _ n1 (cnt + 1) rfl ((Lk.refl s top S).uJ (Nat.le_refl _)) (by rw [uJ_s, if_pos rfl]) (by omega) (by omega)
  · intro i j k o x h1 h2 f g a b hk l1 l2
    exact binp 0 i j k o x h1 h2 f g a b hk l1 (by omega)
  · intro i j k o x h1 h2 f g a b hk l1 l2
    exact binp 1 i j k o x h1 h2 f g a b hk (by omega) l2
  · rintro i j x h f ⟨⟨ha, ha1⟩, a⟩ hk
    refine ⟨⟨by omega, by omega⟩, ?_⟩
    intro m n top cnt S hM hR hto htop hcnt hn kS kN
    refine a (m + 1) n top cnt S hM hR (by omega) (by omega) (by omega) (by omega) ?_ (fun hu => kN (by unfold notF; rw [hu]))
    intro u S1 n1 cnt1 hu L1 v1 hn1 hc1
    obtain ⟨n2, rfl⟩ : ∃ n2, n1 = n2 + 1 := ⟨n1 - 1, by omega⟩
    refine hdr n2 (top + 1) cnt1 j S1 (L1.1.trans hM) (by omega) (by omega) (by omega) ?_
    rw [hk]
    have r2 : S1.2.2 s 0 = some (s + 1) := by rw [L1.2.1, hR]; exact hs
    refine ite_n (by show ¬ (nI 10 = 0); decide) (ite_n (by show ¬ (nI 10 = 1); decide) (ite_n ?_ (ite_y ?_ (ite_y rfl (ex_y r2 (ex_y r2 ?_))))))
    · simp (disch := omega) only [lit, ltI]; omega
    · simp (disch := omega) only [lit, leI]; omega
    rw [show nI (top + 1) - 1 = nI top from nI_pred top, hl, in_iff (by omega), clI (by omega), v1]
    refine ⟨by omega, by omega, nm_e ?_⟩
    exact kS (1 - u) _ n2 (cnt1 + 1) (by unfold notF; rw [hu]) (L1.uJ (Nat.le_refl _)) (by rw [uJ_s, if_pos rfl]) (by omega) (by omega)
  · rintro i j k o h1 h2 f g ⟨⟨ha, ha1⟩, a⟩ hk ho ⟨⟨hb, hb1⟩, b⟩
    refine ⟨⟨by omega, by omega⟩, ?_⟩
    intro m n top cnt S hM hR hto htop hcnt hn kS kN
    refine a (m + (k - j)) n top cnt S hM hR (by omega) (by omega) (by omega) (by omega) ?_ (fun hu => kN (by unfold orF; rw [hu]))
    intro u S1 n1 cnt1 hu L1 v1 hn1 hc1
    obtain ⟨n2, rfl⟩ : ∃ n2, n1 = n2 + 1 := ⟨n1 - 1, by omega⟩
    refine hdr n2 (top + 1) cnt1 j S1 (L1.1.trans hM) (by omega) (by omega) (by omega) ?_
    rw [hk]
    have r2 : S1.2.2 s 0 = some (s + 1) := by rw [L1.2.1, hR]; exact hs
    have ag : agC (o, k) = 2 * k := by unfold agC; rw [if_pos (by show 11 ≤ o; omega)]
    rw [ag]
    have fin : f_X7_worth_176 G (f_X7_worth_15_n G s (nI to) w cd Q n2) s (nI to) w cd (nI (top + 1)) (nI (2 * (j + 1))) (nI cnt1) (nI o) (nI (2 * k)) Q S1 := by
      refine ex_y r2 ?_
      rw [show nI (top + 1) - 1 = nI top from nI_pred top, hl, in_iff (by omega), clI (by omega), v1]
      refine ⟨by omega, ?_⟩
      have go : ∀ (b : Int32), b.toInt64 = (if o = 11 then 1 else 0) → f_X7_worth_197 G (f_X7_worth_15_n G s (nI to) w cd Q n2) s (nI to) w cd (nI (top + 1)) (nI (2 * (j + 1))) (nI cnt1) (nI (2 * k)) b u Q S1 := by
        intro b0 hb0
        unfold f_X7_worth_197
        rw [hb0]
        refine ite_c (fun d => ?_) (fun d => ?_)
        · rw [cmp_eq] at d
          show ite _ _ _
          refine ite_n (by decide) ?_
          show ite _ _ _
          refine ite_n (by decide) ?_
          rw [nI_1]
          exact kS u S1 n2 (cnt1 + 1) (by unfold orF; rw [hu]; show (if _ then _ else _) = _; rw [if_pos d]) L1 v1 (by omega) (by omega)
        · rw [cmp_eq] at d
          show ite _ _ _
          refine ite_y rfl ?_
          show ite _ _ _
          refine ite_y rfl (nm_p (nI_pred top) ?_)
          rw [nI_1]
          have eo : orF o f g e = g e := by unfold orF; rw [hu]; show (if _ then _ else _) = _; rw [if_neg d]
          refine b m n2 top (cnt1 + 1) S1 (L1.1.trans hM) (L1.2.1.trans hR) (by omega) (by omega) (by omega) (by omega) ?_ ?_
          · intro u2 S2 n3 cnt3 hu2 L2 v2 hn3 hc3
            exact kS u2 S2 n3 cnt3 (eo.trans hu2) (L1.trans L2 (Nat.le_refl _)) v2 hn3 (by omega)
          · intro hu2 S2 L2
            exact kN (eo.trans hu2) S2 (L1.trans L2 (Nat.le_refl _))
      rcases ho with rfl | rfl
      · exact ite_y rfl (go 1 rfl)
      · exact ite_n (by decide) (go 0 rfl)
    refine ite_n ?_ (ite_n ?_ (ite_n ?_ (ite_y ?_ (ite_n ?_ ?_))))
    · simp (disch := omega) only [lit, eqI]; omega
    · simp (disch := omega) only [lit, eqI]; omega
    · simp (disch := omega) only [lit, ltI]; omega
    · simp (disch := omega) only [lit, leI]; omega
    · simp (disch := omega) only [lit, eqI]; omega
    rcases ho with rfl | rfl
    · exact ite_y rfl fin
    · exact ite_n (by show ¬ (nI 12 = 11); decide) (ite_y rfl fin)
end
def wv : Option Int64 → Int32
  | none => -2147483648
  | some v => v.toInt32
theorem c_worth {G : Gm} {s w cd tx i j h t : Nat} {c : Cd} {e : Nat → Int64} {U : Nat → Prop} {f : Fn} {Q : Int32 → St → Prop} {S : St} (hC : CxC G S.1 S.2.2 s w cd (2 * j) c e U) (hseg : Seg c U t i j h f) (h32 : h ≤ 32) (htx : S.2.2 tx 4 = some cd) (k : ∀ S', Lk s 0 S S' → Q (wv (f e)) S') : f_X7_worth G s tx (nI (2 * i)) (nI (2 * j)) w Q S := by
  have hd := hC.2.2.2.1
  have ht := hC.2.2.1
  refine ex_y htx ⟨0 + 1 + (j - i), ?_⟩
  have g := hseg _ (goodC (Q := Q) hC)
  refine g.2 1 _ 0 0 S rfl rfl (Nat.le_refl _) (by omega) (by omega) (by omega) ?_ ?_
  · intro v S' n' cnt' hv L hv0 hn hc
    obtain ⟨n1, rfl⟩ : ∃ n1, n' = n1 + 1 := ⟨n' - 1, by omega⟩
    have fin : f_X7_worth_325 G s (nI (0 + 1)) Q S' := by
      refine ite_y rfl (ex_y (by rw [L.2.1]; exact hC.1) ⟨?_, ?_⟩)
      · rw [hC.2.1]; exact (in_iff (k := 0) (by omega)).mpr (by omega)
      · have := k S' L
        rw [hv] at this
        have e0 : S'.2.1 (s + 1) ((0 : Int32).toNatClampNeg) = v := hv0
        rw [e0]; exact this
    show ite _ _ _
    refine ite_c (fun _ => fin) (fun _ => ite_c (fun _ => fin) (fun _ => ite_y ?_ fin))
    rw [leI (by omega) (by omega)]; exact Nat.le_refl _
  · intro hv S' L
    have := k S' L
    rw [hv] at this
    exact this
