/-! The reference reads tests. -/
def RTm (G : Gm) (B : St) (tk ts te tv : Nat → Nat) (tc : Nat) (od : Bool) (v1 : Int32) (K : St → Prop) (Lst L hb nb : Nat) (Go : Nat → St → Prop) (st : Nat → Prop) (g : Nat → Nat → Ex) : Prop :=
  ∀ (P : List (Nat × Nat)) (k p N : Nat) (c : Cd) (S : St), k ≤ tc → p ≤ 50 → stopL P Lst → brk P + nb = 8 → (inn P 0 ≠ 14 ∧ (inn P 0 = 0 → ¬ v1 = 0) ∧ (P = [] ∨ ∃ P' y, P = P' ++ [y] ∧ 10 ≤ y.1)) → RSt B tk ts te tv od k p N c P S →
   (∀ k' p' F, g k p = .inr (k', p', F) → ∀ S' N' c' ps h, RSt B tk ts te tv od k' p' N' c' (P ++ ps) S' → Rep c' (UU od) N' ps 1 N h F → h ≤ hb → (∀ x, x ∈ ps → L ≤ bn x.1) → (∀ j, j < N → c' j = c j) → st (tk k') → El G v1 K tc 3 2 k' S') →
   (∀ x, g k p = .inl x → ∀ S', REn B (ts x) S' → K S') → Go k S
def GoZ (G : Gm) (v1 : Int32) (K : St → Prop) (tc k : Nat) (S : St) : Prop := El G v1 K tc 2 0 k S
section
variable {G : Gm} {B S S' : St} {tk ts te tv : Nat → Nat} {tc : Nat} {od : Bool} {Q : Int32 → St → Prop} {K : St → Prop} {k p N : Nat} {c : Cd} {pl : List (Nat × Nat)} {v1 : Int32} {so : Option (Nat → Nat → Ex)}
theorem stopL.up {P : List (Nat × Nat)} {a b : Nat} (h : stopL P a) (hab : a ≤ b) : stopL P b := by
  rcases h with h | ⟨P', x, h1, h2⟩
  · exact .inl h
  · exact .inr ⟨P', x, h1, by omega⟩
theorem po_le {o : Nat} (h : o ≤ 14) : po o ≤ 32 := by unfold po; repeat' split
                                                       all_goals omega
theorem po_79 {o : Nat} (h7 : 7 ≤ o) (h14 : o ≤ 14) : 25 ≤ po o ∧ (po o ≤ 27 ↔ o ≤ 9) := by
  have : o = 7 ∨ o = 8 ∨ o = 9 ∨ o = 10 ∨ o = 11 ∨ o = 12 ∨ o = 13 ∨ o = 14 := by omega
  rcases this with rfl | rfl | rfl | rfl | rfl | rfl | rfl | rfl <;> decide
theorem m_inI {o lo hi : Nat} (ho : o < 100) (hh : hi < 100) (hl : lo < 100) (y : lo ≤ o → o ≤ hi → Q 1 S) (n : ¬ (lo ≤ o ∧ o ≤ hi) → Q 0 S) : f_X11_in G (nI o).toInt64 (lN lo) (lN hi) Q S := by
  refine m_in (fun h1 h2 => ?_) (fun h => ?_)
  · rw [i32_64, nI_toInt (by omega), lN_toInt (by omega)] at h1 h2
    exact y (by omega) (by omega)
  · rw [i32_64, nI_toInt (by omega), lN_toInt (by omega), lN_toInt (by omega)] at h
    exact n (by omega)
theorem m_cmpd {P ps : List (Nat × Nat)} (hE : EnvR G B tk ts te tv tc od) (h : RSt B tk ts te tv od k p N c (P ++ ps) S) (hk : k ≤ 400) (hps : ∀ x, x ∈ ps → 5 ≤ bn x.1) (y : (∃ P' y, P = P' ++ [y] ∧ 7 ≤ y.1 ∧ y.1 ≤ 9) → Q 1 S) (n : (P = [] ∨ ∃ P' y, P = P' ++ [y] ∧ 10 ≤ y.1) → Q 0 S) (hP : (∃ P' y, P = P' ++ [y] ∧ 7 ≤ y.1 ∧ y.1 ≤ 9) ∨ (P = [] ∨ ∃ P' y, P = P' ++ [y] ∧ 10 ≤ y.1)) : f_X11_isCompared G 87 Q S := by
  have hS := h.sh hE
  have hw := h.2.2.2.2.2.2.2.2.2.1
  have hl := h.2.2.2.2.2.2.2.2.2.2.1
  have hpl := h.2.2.2.2.2.2.2.1
  have main : ∀ m, m ≤ ps.length → f_X11_isCompared_7_n G 87 Q (m + 1) (nI (P.length + m) - 1) S := by
    intro m
    induction m with
    | zero =>
      intro _
      rw [Nat.add_zero, f_X11_isCompared_7_n]
      rcases lst_c P with rfl | ⟨P', x, rfl⟩
      · refine ite_y (by decide) (ite_y (by decide) (n (.inl rfl)))
      · have hx := hpl.2 P'.length x (by simp)
        have hxw := hw x (by simp)
        have pl32 := po_le hxw.2.1
        rw [List.length_append, List.length_singleton, nI_pred]
        rw [List.length_append, List.length_append, List.length_singleton] at hl
        have x7 : 7 ≤ x.1 := by
          rcases hP with ⟨P2, y2, h1, h2, _⟩ | h1 | ⟨P2, y2, h1, h2⟩
          · obtain ⟨_, e⟩ := List.append_inj' h1 rfl
            have : x = y2 := by simpa using e
            rw [this]; exact h2
          · exact absurd h1 (by simp)
          · obtain ⟨_, e⟩ := List.append_inj' h1 rfl
            have : x = y2 := by simpa using e
            rw [this]; omega
        have p79 : 25 ≤ po x.1 ∧ (po x.1 ≤ 27 ↔ x.1 ≤ 9) := po_79 x7 hxw.2.1
        have p7 := p79.1
        have p9 := p79.2
        refine ite_n (nI_nn (by omega)) (ex_y hS.pile ?_)
        rw [hS.pile_l, in_iff (by omega), clI (by omega), hx.1]
        refine ⟨by omega, m_inI (lo := 20) (hi := 24) (by omega) (by omega) (by omega) (fun _ _ => by omega) (fun _ => ite_y rfl (ite_n (nI_nn (by omega)) (ex_y hS.pile ?_)))⟩
        rw [hS.pile_l, in_iff (by omega), clI (by omega), hx.1]
        refine ⟨by omega, m_inI (lo := 25) (hi := 27) (by omega) (by omega) (by omega) (fun _ h2 => ite_n (by decide) (y ⟨P', x, rfl, x7, p9.mp h2⟩)) (fun h2 => ite_y rfl (n (.inr ⟨P', x, rfl, ?_⟩)))⟩
        omega
    | succ m ih =>
      intro hm
      have w := ih (by omega)
      rw [f_X11_isCompared_7_n]
      generalize f_X11_isCompared_7_n G 87 Q (m + 1) = W at w ⊢
      have hlt : m < ps.length := by omega
      have hx := hpl.2 (P.length + m) ps[m] (by rw [List.getElem?_append_right (by omega), Nat.add_sub_cancel_left]; exact List.getElem?_eq_getElem hlt)
      have hb := hps ps[m] (List.getElem_mem hlt)
      have x6 := bn5 hb
      have hxw := hw ps[m] (by simp)
      have pe : po ps[m].1 = ps[m].1 + 18 := by unfold po; rw [if_neg (by omega), if_neg (by omega)]
      rw [List.length_append] at hl
      rw [← Nat.add_assoc, nI_pred]
      refine ite_n (nI_nn (by omega)) (ex_y hS.pile ?_)
      rw [hS.pile_l, in_iff (by omega), clI (by omega), hx.1, pe]
      refine ⟨by omega, m_inI (lo := 20) (hi := 24) (by omega) (by omega) (by omega) (fun _ _ => ite_n (by decide) ?_) (fun h => by omega)⟩
      rw [show nI (P.length + m) + (-1) = nI (P.length + m) - 1 from by rw [Int32.sub_eq_add_neg]]
      exact w
  refine nm_p (e' := nI (P.length + ps.length) - 1) (by rw [hpl.1, List.length_append]) ⟨ps.length + 1, main ps.length (Nat.le_refl _)⟩
theorem El.test (h20 : S.1 87 20 = 0) (z : ∀ n, 3 * (tc - k) + 2 ≤ n → f_X11_behindTest G 87 (fun r S' => f_X11_readExpression_20_n G 87 v1 K n r S') S) : El G v1 K tc 3 2 k S := by
  intro n hn
  obtain ⟨n1, rfl⟩ : ∃ n1, n = n1 + 1 := ⟨n - 1, by omega⟩
  rw [f_X11_readExpression_20_n]
  exact ite_y h20 (ite_n (by decide) (ite_n (by decide) (ite_n (by decide) (ite_n (by decide) (z n1 (by omega))))))
theorem El.plain (h20 : S.1 87 20 = 0) (z : ∀ n, 3 * (tc - k) + 1 ≤ n → f_X11_readPlain G 87 (fun r S' => f_X11_readExpression_20_n G 87 v1 K n r S') S) : El G v1 K tc 2 0 k S := by
  intro n hn
  obtain ⟨n1, rfl⟩ : ∃ n1, n = n1 + 1 := ⟨n - 1, by omega⟩
  rw [f_X11_readExpression_20_n]
  exact ite_y h20 (ite_n (by decide) (ite_y rfl (z n1 (by omega))))
theorem stp79 {t : Nat} (h : 7 ≤ stp t) : (stp t = 7 ∧ t = 160) ∨ (stp t = 8 ∧ t = 162) ∨ (stp t = 9 ∧ t = 161) := by
  by_cases a : t = 160
  · left; subst a; exact ⟨rfl, rfl⟩
  by_cases b : t = 162
  · right; left; subst b; exact ⟨rfl, rfl⟩
  by_cases c : t = 161
  · right; right; subst c; exact ⟨rfl, rfl⟩
  have h6 : stp t ≤ 6 := by
    unfold stp
    repeat' split
    all_goals omega
  omega
theorem inn_v : ∀ {l : List (Nat × Nat)} {a : Nat}, (∀ x, x ∈ l → x.1 ≤ 14) → (a = 0 ∨ a = 13 ∨ a = 14) → inn l a = 0 ∨ inn l a = 13 ∨ inn l a = 14 := by
  intro l
  induction l with
  | nil => intro a _ h; exact h
  | cons x l ih =>
    intro a hl h
    refine ih (a := if 13 ≤ x.1 then x.1 else a) (fun y hy => hl y (by simp [hy])) ?_
    have := hl x (by simp)
    split <;> omega
theorem inn_r {P : List (Nat × Nat)} (h : ∀ x, x ∈ P → x.1 ≤ 14) (h14 : inn P 0 ≠ 14) : ((if inn P 0 = 0 then -1 else nI (po (inn P 0))) : Int32) = -1 ∧ inn P 0 = 0 ∨ ((if inn P 0 = 0 then -1 else nI (po (inn P 0))) : Int32) = 31 := by
  rcases inn_v h (.inl rfl) with h1 | h1 | h1
  · left; exact ⟨if_pos h1, h1⟩
  · right; rw [if_neg (by omega), h1]; rfl
  · exact absurd h1 h14
theorem r_cmp (hE : EnvR G B tk ts te tv tc od) (n : Nat) : RTm G B tk ts te tv tc od v1 K 4 4 (2 * n + 4) n (GoP G v1 K tc) (fun _ => True) (gCmp tk (gSum tk tv od n)) := by
  intro P k p N c S hk hp hst hbr hcx hS y e
  have hA := hE.2.1
  have t4 := hA.1
  have hok := gSum_ok (od := od) hA n
  have sm := r_sum (v1 := v1) (K := K) hE n
  refine sm P k p N c S hk hp (hst.up (by omega)) hbr trivial hS ?_ ?_
  · intro k1 p1 F hg S1 N1 c1 ps h hS1 hrep hh hbn hc hno
    obtain ⟨b1, b2, b3⟩ := (hok k p hk hp).2 k1 p1 F hg
    have p12 : ∀ x, x ∈ ps → x.1 ≤ 12 := fun x hx => bn_12 (by have := hbn x hx; omega)
    have iq : inn (P ++ ps) 0 = inn P 0 := by rw [inn_app, inn_no p12]
    refine El.sum hS1.2.2.2.1 (fun n2 hn2 => m_bsum hS1 (fun o h1 h2 h3 => absurd (show 2 ≤ stp (tk k1) ∧ stp (tk k1) ≤ 6 from ⟨by omega, by omega⟩) (no_op hno.1 hno.2)) (fun _ => ite_y rfl ?_))
    have bad : ¬ 7 ≤ stp (tk k1) → f_X11_behindSum_224 G 87 27 0 87 (fun r S' => f_X11_readExpression_20_n G 87 v1 K n2 r S') S1 := by
      intro h7
      refine m_must_n hE hS1 b2 (fun S3 hB h20 => ite_n (by rw [h20]; decide) (m_badEnd hE hB (e k1 ?_) (by omega)))
      unfold gCmp; rw [hg]; simp only []; rw [if_neg h7]
    have good : ∀ o, stp (tk k1) = o → 7 ≤ o → f_X11_behindSum_224 G 87 (nI (po o)) 1 87 (fun r S' => f_X11_readExpression_20_n G 87 v1 K n2 r S') S1 := by
      intro o ho h7
      have o9 := stp_le (tk k1)
      have hk3 : k1 < tc := tk_lt hA (fun e => by rw [e] at ho; have : (0 : Nat) = o := ho; omega)
      refine m_must_y hE hS1 hk3 (fun S2 hS2 => ite_y hS2.2.2.2.1 ?_)
      refine m_settle (least := 5) hE hS2 (by omega) (by omega) (by omega) hrep hbn (hst.up (by omega)) (fun S3 N3 c3 hS3 hseg hN3 hc3 => ?_)
      have em1 := hS1.2.2.2.2.2.2.2.2.2.2.2
      have len1 := hS1.2.2.2.2.2.2.2.2.2.2.1
      rw [emN_app] at em1
      rw [List.length_append] at len1
      refine m_pushO hE hS3 (by omega) (by omega) (by omega) (by omega) (fun S4 hS4 => ?_)
      have bO : brk (P ++ [(o, 0)]) = brk P := by
        rw [brk_app]
        have : brk [(o, 0)] = 0 := by unfold brk; rw [if_neg (by show ¬ 13 ≤ o; omega)]; rfl
        rw [this]; rfl
      refine El.part hS4.2.2.2.1 (sm (P ++ [(o, 0)]) (k1 + 1) p1 N3 c3 S4 (by omega) b3 (.inr ⟨P, _, rfl, ?_⟩) (by rw [bO]; exact hbr) trivial hS4 ?_ ?_) n2 (by omega)
      · show bn o < 5
        unfold bn; rw [if_neg (by omega), if_neg (by omega), if_neg (by omega), if_neg (by omega), if_pos (by omega)]; omega
      · intro k2 p2 F2 hg2 S5 N5 c5 ps5 h5 hS5 hrep5 hh5 hbn5 hc5 hno5
        obtain ⟨d1, d2, d3⟩ := (hok (k1 + 1) p1 (by omega) b3).2 k2 p2 F2 hg2
        have p125 : ∀ x, x ∈ ps5 → x.1 ≤ 12 := fun x hx => bn_12 (by have := hbn5 x hx; omega)
        have iq5 : inn ((P ++ [(o, 0)]) ++ ps5) 0 = inn P 0 := by
          rw [inn_app, inn_no p125, inn_app, inn_no (l := [(o, 0)]) (fun x hx => by rw [List.mem_singleton] at hx; rw [hx]; show o ≤ 12; omega)]
        have l1 := hseg.keep.1
        have l5 := hrep5.lt
        refine El.sum hS5.2.2.2.1 (fun n3 hn3 => m_bsum hS5 (fun o h1 h2 h3 => absurd (show 2 ≤ stp (tk k2) ∧ stp (tk k2) ≤ 6 from ⟨by omega, by omega⟩) (no_op hno5.1 hno5.2)) (fun _ => ite_y rfl ?_))
        have fin : f_X11_behindSum_163 G 87 (fun r S' => f_X11_readExpression_20_n G 87 v1 K n3 r S') S5 := by
          refine m_cmpd hE hS5 (by omega) hbn5 (fun _ => ite_n (by decide) ?_) (fun h => ?_) (.inl ⟨P, (o, 0), rfl, h7, by show o ≤ 9; omega⟩)
          · have s1 : Seg c5 (UU od) 0 N N3 h F := hseg.keep.2 _ _ (fun j x1 x2 => hc5 j x2) (fun _ h => h)
            have er : gCmp tk (gSum tk tv od n) k p = .inr (k2, p2, binF o F F2) := by
              unfold gCmp; rw [hg]; simp only []; rw [if_pos (by omega), hg2, ho]
            refine y k2 p2 _ er S5 N5 c5 ((o, 0) :: ps5) (max h (h5 + 1)) ?_ (.inr (.inl ⟨h7, by show o ≤ 9; omega, rfl, N3, h, h5, F, F2, s1, hrep5, rfl, rfl⟩)) (by omega) ?_ ?_ trivial n3 (by omega)
            · rw [List.append_assoc] at hS5; exact hS5
            · intro x hx
              rcases List.mem_cons.mp hx with rfl | hx
              · show 4 ≤ bn o
                unfold bn; rw [if_neg (by omega), if_neg (by omega), if_neg (by omega), if_neg (by omega), if_pos (by omega)]; omega
              · have := hbn5 x hx; omega
            · intro j hj
              rw [hc5 j (by omega), hc3 j hj]; exact hc j hj
          · exfalso
            rcases h with h | ⟨P2, y2, h1, h2⟩
            · exact absurd h (by simp)
            · obtain ⟨_, e⟩ := List.append_inj' h1 rfl
              have : (o, 0) = y2 := by simpa using e
              rw [← this] at h2
              have h2 : 10 ≤ o := h2
              omega
        refine m_inner hE hS5 (by omega) ?_
        rw [iq5]
        rcases inn_r (P := P) (fun x hx => (hS1.2.2.2.2.2.2.2.2.2.1 x (by simp [hx])).2.1) hcx.1 with ⟨h1, h2⟩ | h1
        · rw [h1]
          exact ite_n (by decide) (ite_y rfl (ite_n (hcx.2.1 h2) fin))
        · rw [h1]
          exact ite_n (by decide) (ite_n (by decide) fin)
      · intro x hx S5 hS5
        refine e x ?_ S5 hS5
        unfold gCmp; rw [hg]; simp only []; rw [if_pos (by omega), hx]
    have c163 : f_X11_behindSum_163 G 87 (fun r S' => f_X11_readExpression_20_n G 87 v1 K n2 r S') S1 := by
      refine m_cmpd hE hS1 (by omega) hbn (fun h => ?_) (fun h => ite_y rfl ?_) (.inr hcx.2.2)
      · exfalso
        obtain ⟨P2, y2, h1, h2, h3⟩ := h
        rcases hcx.2.2 with h | ⟨P3, y3, h4, h5⟩
        · rw [h] at h1; exact absurd h1 (by simp)
        · rw [h4] at h1
          obtain ⟨_, e⟩ := List.append_inj' h1 rfl
          have : y3 = y2 := by simpa using e
          rw [this] at h5; omega
      · refine m_sign (t := 60) hS1 (by omega) (fun e6 => ite_n (by decide) ?_) (fun e6 => ite_y rfl ?_)
        · exact ite_n (by decide) (good 7 (by rw [e6]; rfl) (by omega))
        · refine m_sign (t := 62) hS1 (by omega) (fun e7 => ite_n (by decide) ?_) (fun e7 => ite_y rfl ?_)
          · exact ite_n (by decide) (good 8 (by rw [e7]; rfl) (by omega))
          · refine ite_y rfl (m_sign (t := 61) hS1 (by omega) (fun e8 => ite_n (by decide) ?_) (fun e8 => ite_y rfl ?_))
            · exact good 9 (by rw [e8]; rfl) (by omega)
            · exact bad (fun h7 => by have := stp79 h7; omega)
    refine m_inner hE hS1 (by omega) ?_
    rw [iq]
    rcases inn_r (P := P) (fun x hx => (hS.2.2.2.2.2.2.2.2.2.1 x hx).2.1) hcx.1 with ⟨h1, h2⟩ | h1
    · rw [h1]
      exact ite_n (by decide) (ite_y rfl (ite_n (hcx.2.1 h2) c163))
    · rw [h1]
      exact ite_n (by decide) (ite_n (by decide) c163)
  · intro x hx S1 hS1
    refine e x ?_ S1 hS1
    unfold gCmp; rw [hx]
end
