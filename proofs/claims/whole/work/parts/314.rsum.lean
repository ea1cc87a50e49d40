/-! The reference reads sums. -/
section
variable {G : Gm} {B S S' : St} {tk ts te tv : Nat → Nat} {tc : Nat} {od : Bool} {Q : Int32 → St → Prop} {K : St → Prop} {k p N : Nat} {c : Cd} {pl : List (Nat × Nat)} {v1 : Int32} {so : Option (Nat → Nat → Ex)}
/-- the argument of a word is patched -/
theorem RSt.pat {w0 w : Nat} (h : RSt B tk ts te tv od k p (N + 1) (updC c N (1, w0)) pl S) (e1 : opR od (1, w) = opR od (1, w0)) : RSt B tk ts te tv od k p (N + 1) (updC c N (1, w)) pl (uI S 100 N (nI (agR od (1, w)))) := by
  obtain ⟨h1, h2, h3, h4, h5, h6, h7, h8, h9, h10, h11, h12⟩ := h
  have q : ∀ i, i ≠ 100 → (uI S 100 N (nI (agR od (1, w)))).1 i = S.1 i := fun i hi => uI_n _ _ _ _ hi
  refine ⟨h1.ua (by omega), ?_, ?_, ?_, ?_, ?_, ?_, h8.ag (by rw [q 87 (by omega)]) (q 101 (by omega)) (q 102 (by omega)), ?_, h10, h11, h12⟩
  · unfold RT; rw [q 87 (by omega)]; exact h2
  · rw [q 87 (by omega)]; exact h3
  · rw [q 87 (by omega)]; exact h4
  · rw [q 87 (by omega)]; exact h5
  · rw [q 87 (by omega)]; exact h6
  · intro i hi
    obtain ⟨a1, a2⟩ := h7 i hi
    rw [q 99 (by omega), uI_s]
    by_cases e : i = N
    · subst e
      rw [updC_s] at a1
      rw [if_pos rfl, updC_s, a1, e1]
      exact ⟨rfl, rfl⟩
    · rw [updC_n e] at a1 a2
      rw [if_neg e, updC_n e]
      exact ⟨a1, a2⟩
  · rw [q 87 (by omega)]; exact h9
theorem RBd.u100 {x j : Nat} {v : Int32} (h : RBd B x S) : RBd B x (uI S 100 j v) := by
  obtain ⟨h1, h2, h3, N, pl, h4, h5, h6, h7, h8⟩ := h
  have q : ∀ i, i ≠ 100 → (uI S 100 j v).1 i = S.1 i := fun i hi => uI_n _ _ _ _ hi
  exact ⟨h1.ua (by omega), by rw [q 87 (by omega)]; exact h2, by rw [q 87 (by omega)]; exact h3, N, pl, by rw [q 87 (by omega)]; exact h4, h5.ag (by rw [q 87 (by omega)]) (q 101 (by omega)) (q 102 (by omega)), h6, h7, h8⟩
theorem opR_w {x : Nat} (h : 4 ≤ x) : opR true (1, x) = 5 + (x - 4) / 6 := by
  unfold opR
  rw [if_neg (show ¬ (1 = 0) from by omega), if_pos rfl, if_pos ⟨rfl, h⟩]
theorem agR_w {x : Nat} (h : 4 ≤ x) : agR true (1, x) = (x - 4) % 6 := by
  unfold agR
  rw [if_neg (show ¬ (1 = 0) from by omega), if_pos rfl, if_pos ⟨rfl, h⟩]
theorem opR_v {x : Nat} (h : ¬ 4 ≤ x) : opR true (1, x) = x + 1 := by
  unfold opR
  rw [if_neg (show ¬ (1 = 0) from by omega), if_pos rfl, if_neg (fun h' => h h'.2)]
theorem agR_v {x : Nat} (h : ¬ 4 ≤ x) : agR true (1, x) = 0 := by
  unfold agR
  rw [if_neg (show ¬ (1 = 0) from by omega), if_pos rfl, if_neg (fun h' => h h'.2)]
theorem orR_x {t v : Nat} (h5 : 5 ≤ orW t) (hv : v ≤ 5) : opR true (1, orW t - 1 + v) = orR t ∧ agR true (1, orW t - 1 + v) = v := by
  have := (orW_le t).2 h5
  rw [opR_w (by omega), agR_w (by omega)]
  unfold orR
  rcases this with h | h | h
  · rw [if_neg (by omega), if_neg (by omega)]; omega
  · rw [if_pos h]; omega
  · rw [if_neg (by omega), if_pos h]; omega
theorem rp_a {its u0 : Int32} (h : its = -1) (h0 : u0 = 0) (z : f_X11_readPart_99 G 87 its 0 0 0 87 Q S) : f_X11_readPart_60 G 87 its u0 Q S := by
  unfold f_X11_readPart_60
  rw [if_pos h, if_pos h0]
  unfold f_X11_readPart_76
  rw [if_pos h]
  unfold f_X11_readPart_86
  rw [if_pos h0]; exact z
theorem rp_b {its u0 : Int32} (h : its = -1) (h0 : ¬ u0 = 0) (z : f_X11_readPart_99 G 87 its ((S.2.1 87 18).toInt32) 0 1 87 Q S) : f_X11_readPart_60 G 87 its u0 Q S := by
  unfold f_X11_readPart_60
  rw [if_pos h, if_neg h0]
  unfold f_X11_readPart_71 f_X11_readPart_76
  rw [if_pos h]
  unfold f_X11_readPart_86
  rw [if_neg h0]; exact z
theorem rp_c {its u0 : Int32} (h : ¬ its = -1) (h0 : u0 = 0) (z : f_X11_readPart_99 G 87 its 0 its 1 87 Q S) : f_X11_readPart_60 G 87 its u0 Q S := by
  unfold f_X11_readPart_60
  rw [if_neg h]
  unfold f_X11_readPart_71 f_X11_readPart_76
  rw [if_neg h]
  unfold f_X11_readPart_86
  rw [if_pos h0]; exact z
theorem r_simple (hE : EnvR G B tk ts te tv tc od) (hb nb : Nat) (h1b : 1 ≤ hb) : RSim G B tk ts te tv tc od v1 K 7 0 hb nb (fun k S => tk k ≠ 191 → GoP G v1 K tc k S) 3 4 (fun _ => True) (fun _ => True) (gSimple tk tv od) := by
  intro P k p N c S hk hp hst hbr _ hS y e h191 n' hn
  have hA := hE.2.1
  have t4 := hA.1
  obtain ⟨tkb, tvb, _⟩ := hA.2.2 k
  have hw := hS.2.1.2.2
  refine m_sign (t := 91) hS (by omega) (fun h => absurd h h191) (fun _ => ite_y rfl ?_)
  have bad : gSimple tk tv od k p = .inl k → ∀ (u v2 v3 v4 : Int32), (u = 0 ∨ 50 ≤ p) → f_X11_readPart_99 G 87 v4 v3 v2 u 87 (fun r S' => f_X11_readExpression_20_n G 87 v1 K n' r S') S := by
    intro er u v2 v3 v4 hu
    refine m_leafN hE hS hk hp hu (fun S1 hB => ?_)
    have fin : f_X11_readExpression_20_n G 87 v1 K n' 3 S1 := m_badEnd hE hB (e k er) (by omega)
    exact ite_c (fun _ => fin) (fun _ => ite_c (fun _ => fin) (fun _ => ite_n (by rw [hB.2.2.1]; decide) fin))
  have key : f_X11_readPart_35 G 87 (itI (wdR od (tk k))) (fun r S' => f_X11_readExpression_20_n G 87 v1 K n' r S') S := by
    by_cases h50 : tk k = 50
    · have hk2 : k < tc := tk_lt hA (by omega)
      refine ite_y ((tok50 hw).mpr h50) ?_
      have w0 : wdR od (tk k) = 0 := by rw [h50]; cases od <;> rfl
      rw [itI_0 w0]
      obtain ⟨_, hww⟩ := tok50w hw h50
      rcases hww with ⟨a1, a2⟩ | ⟨a1, a2⟩
      · refine ite_n (by rw [cmp_gt, a2, lN_toInt (by omega)]; show ¬ (1000 : Int) < _; omega) (rp_b rfl (by decide) ?_)
        rw [a2, lN32 (by omega)]
        by_cases hp5 : 50 ≤ p
        · exact bad (by unfold gSimple; rw [if_pos hp5]) _ _ _ _ (.inr hp5)
        · refine m_leafY (o := 0) (x := tv k) hE hS hk2 (by omega) (by decide) rfl rfl (fun S1 hS1 => ?_)
          have er : gSimple tk tv od k p = .inr (k + 1, p + 1, fun _ => some (lN (tv k))) := by unfold gSimple; rw [if_neg hp5, if_pos h50, if_pos a1]
          have fin : f_X11_readExpression_20_n G 87 v1 K n' 3 S1 := y _ _ _ er S1 (N + 1) _ [] 1 (by rw [List.append_nil]; exact hS1) (Seg.num updC_s a1) h1b (fun x hx => by cases hx) (fun j hj => updC_n (by omega)) trivial n' (by omega)
          exact ite_c (fun _ => fin) (fun _ => ite_y (by decide) fin)
      · refine ite_y (by rw [cmp_gt]; exact a2) (rp_a rfl rfl ?_)
        refine bad ?_ _ _ _ _ (.inl rfl)
        unfold gSimple
        by_cases hp5 : 50 ≤ p
        · rw [if_pos hp5]
        · rw [if_neg hp5, if_pos h50, if_neg (by omega)]
    · refine ite_n (fun h => h50 ((tok50 hw).mp h)) ?_
      by_cases hw0 : wdR od (tk k) = 0
      · rw [itI_0 hw0]
        refine rp_a rfl rfl (bad ?_ _ _ _ _ (.inl rfl))
        unfold gSimple
        by_cases hp5 : 50 ≤ p
        · rw [if_pos hp5]
        · rw [if_neg hp5, if_neg h50, if_pos (wdR_0.mp hw0)]
      · have hw1 : ¬ wdW1 od (tk k) = 0 := fun h => hw0 (wdR_0.mpr h)
        have hk2 : k < tc := tk_lt hA (fun e => hw1 (by rw [e]; exact wd51))
        have wl := wd_le (od := od) (tk k)
        have rl : wdR od (tk k) ≤ 17 := by
          unfold wdR orR; have := (orW_le (tk k)).1; have := lwW_le (tk k)
          repeat' split
          all_goals omega
        rw [itI_p hw0]
        refine rp_c (nI_n1 (by omega)) rfl ?_
        by_cases hp5 : 50 ≤ p
        · exact bad (by unfold gSimple; rw [if_pos hp5]) _ _ _ _ (.inr hp5)
        · cases hod : od with
          | false =>
            have l9 := lwW_le (tk k)
            have er : gSimple tk tv od k p = .inr (k + 1, p + 1, fun e => some (e (wdW1 od (tk k) - 1))) := by
              unfold gSimple; rw [if_neg hp5, if_neg h50, if_neg hw1, if_neg (by rw [hod]; simp)]
            have e0 : wdW1 od (tk k) = lwW (tk k) := by rw [hod]; rfl
            rw [hod] at hw0
            refine m_leafY (o := 1) (x := wdW1 od (tk k) - 1) hE hS hk2 (by omega) (by decide) ?_ ?_ (fun S1 hS1 => ?_)
            · rw [hod]
              have : opR false (1, wdW1 false (tk k) - 1) = wdW1 false (tk k) - 1 + 1 := by unfold opR; simp
              rw [this]
              have e1 : wdW1 false (tk k) = wdR false (tk k) := rfl
              rw [e1, show wdR false (tk k) - 1 + 1 = wdR false (tk k) from by omega]
            · rw [hod]; rfl
            · have fin : f_X11_readExpression_20_n G 87 v1 K n' 3 S1 := by
                refine y _ _ _ er S1 (N + 1) _ [] 1 (by rw [List.append_nil]; exact hS1) (Seg.word (w := wdW1 od (tk k) - 1) updC_s ?_) h1b (fun x hx => by cases hx) (fun j hj => updC_n (by omega)) trivial n' (by omega)
                show _ < (if od = true then 22 else 9)
                rw [hod, if_neg (by simp)]
                rw [hod] at e0
                omega
              refine ite_y ?_ fin
              rw [hS1.ord hE, hod]; rfl
          | true =>
            rw [hod] at hw0 hw1 wl rl
            have e0 : wdW1 true (tk k) = orW (tk k) := rfl
            have e1 : wdR true (tk k) = orR (tk k) := rfl
            rw [e0] at hw1
            by_cases h5 : 5 ≤ orW (tk k)
            · have o5 := (orW_le (tk k)).2 h5
              obtain ⟨x1, x2⟩ := orR_x (t := tk k) (v := 0) h5 (by omega)
              rw [Nat.add_zero] at x1 x2
              have r5 : 5 ≤ orR (tk k) := by unfold orR; repeat' split
                                             all_goals omega
              refine m_leafY (o := 1) (x := orW (tk k) - 1) hE hS hk2 (by omega) (by decide) ?_ ?_ (fun S1 hS1 => ?_)
              · rw [hod, e1, x1]
              · rw [hod, x2]; rfl
              · refine ite_n (by rw [hS1.ord hE, hod]; decide) (ite_n (by rw [e1, lit, ltI (by omega) (by omega)]; omega) (ite_y hS1.2.2.2.1 ?_))
                have n24 := hS1.2.2.2.2.1
                have em := hS1.2.2.2.2.2.2.2.2.2.2.2
                refine nm_p (e' := nI N) (by rw [n24, nI_pred]) (ex_y (hS1.sh hE).nArg ?_)
                refine m_number (lo := 0) (hi := 5) hE hS1 (by omega) (by omega) (by omega) (fun h6 h7 h8 S2 hS2 => ?_) (fun hno S2 r hB h20 => ?_)
                · rw [(hS1.sh hE).nArg_l, in_iff (by omega), clI (by omega)]
                  refine ⟨by omega, nm_e ?_⟩
                  have hk3 : k + 1 < tc := tk_lt hA (by omega)
                  obtain ⟨z1, z2⟩ := orR_x (t := tk k) (v := tv (k + 1)) h5 h8
                  have hp2 := hS2.pat (w := orW (tk k) - 1 + tv (k + 1)) (by rw [hod, z1, x1])
                  rw [hod, z2] at hp2
                  have er : gSimple tk tv od k p = .inr (k + 2, p + 1, fun e => some (e (orW (tk k) - 1 + tv (k + 1)))) := by
                    unfold gSimple; rw [if_neg hp5, if_neg h50, hod, e0, if_neg hw1, if_pos ⟨rfl, h5⟩, if_pos ⟨h6, h8⟩]
                  refine y _ _ _ er _ (N + 1) _ [] 1 (by rw [List.append_nil, hod]; exact hp2) (Seg.word (w := orW (tk k) - 1 + tv (k + 1)) updC_s ?_) h1b (fun x hx => by cases hx) (fun j hj => updC_n (by omega)) trivial n' (by omega)
                  show _ < (if od = true then 22 else 9)
                  rw [hod, if_pos rfl]; omega
                · rw [(hS1.sh hE).nArg_l, in_iff (by omega), clI (by omega)]
                  refine ⟨by omega, nm_e (m_badEnd hE hB.u100 (e (k + 1) ?_) (by omega))⟩
                  unfold gSimple; rw [if_neg hp5, if_neg h50, hod, e0, if_neg hw1, if_pos ⟨rfl, h5⟩, if_neg (fun h => hno ⟨h.1, by omega, h.2⟩)]
            · have r5 : orR (tk k) = orW (tk k) := by unfold orR; rw [if_neg (by omega), if_neg (by omega)]
              have x1 : opR true (1, orW (tk k) - 1) = orW (tk k) := by
                rw [opR_v (by omega)]; omega
              have x2 : agR true (1, orW (tk k) - 1) = 0 := by
                rw [agR_v (by omega)]
              refine m_leafY (o := 1) (x := orW (tk k) - 1) hE hS hk2 (by omega) (by decide) ?_ ?_ (fun S1 hS1 => ?_)
              · rw [hod, e1, r5, x1]
              · rw [hod, x2]; rfl
              · have er : gSimple tk tv od k p = .inr (k + 1, p + 1, fun e => some (e (orW (tk k) - 1))) := by
                  unfold gSimple; rw [if_neg hp5, if_neg h50, hod, e0, if_neg hw1, if_neg (fun h => h5 h.2)]
                have fin : f_X11_readExpression_20_n G 87 v1 K n' 3 S1 := by
                  refine y _ _ _ er S1 (N + 1) _ [] 1 (by rw [List.append_nil]; exact hS1) (Seg.word (w := orW (tk k) - 1) updC_s ?_) h1b (fun x hx => by cases hx) (fun j hj => updC_n (by omega)) trivial n' (by omega)
                  show _ < (if od = true then 22 else 9)
                  rw [hod, if_pos rfl]; omega
                exact ite_n (by rw [hS1.ord hE, hod]; decide) (ite_y (by rw [e1, r5, lit, ltI (by omega) (by omega)]; omega) fin)
  cases hod : od with
  | false =>
    refine ite_y (by rw [hS.ord hE, hod]; rfl) (m_partAt hE hS ?_)
    rw [hod] at key; exact key
  | true =>
    refine ite_n (by rw [hS.ord hE, hod]; decide) (m_orderPartAt hE hS ?_)
    rw [hod] at key; exact key
end
