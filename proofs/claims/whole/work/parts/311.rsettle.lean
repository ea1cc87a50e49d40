/-! The reference's pile: what stands on it, how it is settled. -/
def Rep (c : Cd) (U : Nat → Prop) (N : Nat) : List (Nat × Nat) → Nat → Nat → Nat → Fn → Prop
  | [], t, i, h, F => Seg c U t i N h F
  | x :: ps, t, i, h, F =>
    (2 ≤ x.1 ∧ x.1 ≤ 6 ∧ t = 0 ∧ ∃ j h1 h2 f g, Seg c U 0 i j h1 f ∧ Rep c U N ps 0 j h2 g ∧ F = binF x.1 f g ∧ h = max h1 (h2 + 1)) ∨
    (7 ≤ x.1 ∧ x.1 ≤ 9 ∧ t = 1 ∧ ∃ j h1 h2 f g, Seg c U 0 i j h1 f ∧ Rep c U N ps 0 j h2 g ∧ F = binF x.1 f g ∧ h = max h1 (h2 + 1)) ∨
    (x.1 = 10 ∧ t = 1 ∧ ∃ g, Rep c U N ps 1 i h g ∧ F = notF g) ∨
    ((x.1 = 11 ∨ x.1 = 12) ∧ t = 1 ∧ ∃ h1 h2 f g, Seg c U 1 i x.2 h1 f ∧ (c x.2).1 = x.1 ∧ Rep c U N ps 1 (x.2 + 1) h2 g ∧ F = orF x.1 f g ∧ h = max h1 h2)
section
variable {c c' : Cd} {U : Nat → Prop} {N : Nat}
theorem Rep.lt : ∀ {ps : List (Nat × Nat)} {t i h : Nat} {F : Fn}, Rep c U N ps t i h F → i < N := by
  intro ps
  induction ps with
  | nil => intro t i h F hr; exact Seg.keep hr |>.1
  | cons x ps ih =>
    intro t i h F hr
    rcases hr with ⟨_, _, _, j, h1, h2, f, g, s, r, _⟩ | ⟨_, _, _, j, h1, h2, f, g, s, r, _⟩ | ⟨_, _, g, r, _⟩ | ⟨_, _, h1, h2, f, g, s, _, r, _⟩
    · have := s.keep.1; have := ih r; omega
    · have := s.keep.1; have := ih r; omega
    · exact ih r
    · have := s.keep.1; have := ih r; omega
theorem Rep.keep : ∀ {ps : List (Nat × Nat)} {t i h : Nat} {F : Fn}, Rep c U N ps t i h F → (∀ k, i ≤ k → k < N → c' k = c k) → Rep c' U N ps t i h F := by
  intro ps
  induction ps with
  | nil => intro t i h F hr hc; exact (Seg.keep hr).2 c' U hc (fun _ h => h)
  | cons x ps ih =>
    intro t i h F hr hc
    rcases hr with ⟨a1, a2, a3, j, h1, h2, f, g, s, r, e1, e2⟩ | ⟨a1, a2, a3, j, h1, h2, f, g, s, r, e1, e2⟩ | ⟨a1, a2, g, r, e1⟩ | ⟨a1, a2, h1, h2, f, g, s, b, r, e1, e2⟩
    · have l1 := s.keep.1; have l2 := r.lt
      exact .inl ⟨a1, a2, a3, j, h1, h2, f, g, s.keep.2 c' U (fun k x1 x2 => hc k x1 (by omega)) (fun _ h => h), ih r (fun k x1 x2 => hc k (by omega) x2), e1, e2⟩
    · have l1 := s.keep.1; have l2 := r.lt
      exact .inr (.inl ⟨a1, a2, a3, j, h1, h2, f, g, s.keep.2 c' U (fun k x1 x2 => hc k x1 (by omega)) (fun _ h => h), ih r (fun k x1 x2 => hc k (by omega) x2), e1, e2⟩)
    · exact .inr (.inr (.inl ⟨a1, a2, g, ih r hc, e1⟩))
    · have l1 := s.keep.1; have l2 := r.lt
      exact .inr (.inr (.inr ⟨a1, a2, h1, h2, f, g, s.keep.2 c' U (fun k x1 x2 => hc k x1 (by omega)) (fun _ h => h), by rw [hc _ (by omega) (by omega)]; exact b, ih r (fun k x1 x2 => hc k (by omega) x2), e1, e2⟩))
theorem Rep.at : ∀ {ps : List (Nat × Nat)} {x : Nat × Nat} {t i h : Nat} {F : Fn}, Rep c U N (ps ++ [x]) t i h F → (x.1 = 11 ∨ x.1 = 12) → i < x.2 ∧ x.2 < N := by
  intro ps
  induction ps with
  | nil =>
    intro x t i h F hr hx
    rcases hr with ⟨a1, a2, a3, j, h1, h2, f, g, s, r, e1, e2⟩ | ⟨a1, a2, a3, j, h1, h2, f, g, s, r, e1, e2⟩ | ⟨a1, a2, g, r, e1⟩ | ⟨a1, a2, h1, h2, f, g, s, b, r, e1, e2⟩
    · omega
    · omega
    · omega
    · have l1 := s.keep.1; have l2 := Seg.keep r |>.1
      exact ⟨l1, by omega⟩
  | cons y ps ih =>
    intro x t i h F hr hx
    rcases hr with ⟨a1, a2, a3, j, h1, h2, f, g, s, r, e1, e2⟩ | ⟨a1, a2, a3, j, h1, h2, f, g, s, r, e1, e2⟩ | ⟨a1, a2, g, r, e1⟩ | ⟨a1, a2, h1, h2, f, g, s, b, r, e1, e2⟩
    · have l1 := s.keep.1; have l2 := ih r hx; omega
    · have l1 := s.keep.1; have l2 := ih r hx; omega
    · exact ih r hx
    · have l1 := s.keep.1; have l2 := ih r hx; omega
def popN (x : Nat × Nat) (N : Nat) : Nat := if x.1 ≤ 10 then N + 1 else N
def popC (x : Nat × Nat) (N : Nat) (c : Cd) : Cd := if x.1 ≤ 10 then updC c N (x.1, 0) else updC c x.2 (x.1, N)
theorem popC_n {x : Nat × Nat} {k : Nat} (h1 : k < N) (h2 : (11 ≤ x.1 → k < x.2)) : popC x N c k = c k := by
  unfold popC
  split
  · exact updC_n (by omega)
  · exact updC_n (by omega)
theorem Rep.pop : ∀ {ps : List (Nat × Nat)} {x : Nat × Nat} {t i h : Nat} {F : Fn}, Rep c U N (ps ++ [x]) t i h F → 2 ≤ x.1 → x.1 ≤ 12 → Rep (popC x N c) U (popN x N) ps t i h F := by
  intro ps
  induction ps with
  | nil =>
    intro x t i h F hr hx2 hx
    rcases hr with ⟨a1, a2, rfl, j, h1, h2, f, g, s, r, rfl, rfl⟩ | ⟨a1, a2, rfl, j, h1, h2, f, g, s, r, rfl, rfl⟩ | ⟨a1, rfl, g, r, rfl⟩ | ⟨a1, rfl, h1, h2, f, g, s, b, r, rfl, rfl⟩
    · have l1 := s.keep.1; have l2 := Seg.keep r |>.1
      unfold popC popN
      rw [if_pos (by omega), if_pos (by omega)]
      exact Seg.bin (s.keep.2 _ U (fun k x1 x2 => updC_n (by omega)) (fun _ h => h)) ((Seg.keep r).2 _ U (fun k x1 x2 => updC_n (by omega)) (fun _ h => h)) updC_s a1 a2
    · have l1 := s.keep.1; have l2 := Seg.keep r |>.1
      unfold popC popN
      rw [if_pos (by omega), if_pos (by omega)]
      exact Seg.cmp (s.keep.2 _ U (fun k x1 x2 => updC_n (by omega)) (fun _ h => h)) ((Seg.keep r).2 _ U (fun k x1 x2 => updC_n (by omega)) (fun _ h => h)) updC_s a1 a2
    · have l2 := Seg.keep r |>.1
      unfold popC popN
      rw [if_pos (by omega), if_pos (by omega)]
      refine Seg.not (x := 0) ((Seg.keep r).2 _ U (fun k x1 x2 => updC_n (by omega)) (fun _ h => h)) ?_
      rw [updC_s, a1]
    · have l1 := s.keep.1; have l2 := Seg.keep r |>.1
      unfold popC popN
      rw [if_neg (by omega), if_neg (by omega)]
      exact Seg.or (s.keep.2 _ U (fun k x1 x2 => updC_n (by omega)) (fun _ h => h)) updC_s a1 ((Seg.keep r).2 _ U (fun k x1 x2 => updC_n (by omega)) (fun _ h => h))
  | cons y ps ih =>
    intro x t i h F hr hx2 hx
    have at0 : ∀ {t i h F}, Rep c U N (ps ++ [x]) t i h F → ∀ k, k < i → popC x N c k = c k := by
      intro t i h F r k hk
      have l2 := r.lt
      refine popC_n (by omega) (fun h11 => ?_)
      have := r.at (by omega)
      omega
    rcases hr with ⟨a1, a2, a3, j, h1, h2, f, g, s, r, e1, e2⟩ | ⟨a1, a2, a3, j, h1, h2, f, g, s, r, e1, e2⟩ | ⟨a1, a2, g, r, e1⟩ | ⟨a1, a2, h1, h2, f, g, s, b, r, e1, e2⟩
    · exact .inl ⟨a1, a2, a3, j, h1, h2, f, g, s.keep.2 _ U (fun k x1 x2 => at0 r k x2) (fun _ h => h), ih r hx2 hx, e1, e2⟩
    · exact .inr (.inl ⟨a1, a2, a3, j, h1, h2, f, g, s.keep.2 _ U (fun k x1 x2 => at0 r k x2) (fun _ h => h), ih r hx2 hx, e1, e2⟩)
    · exact .inr (.inr (.inl ⟨a1, a2, g, ih r hx2 hx, e1⟩))
    · exact .inr (.inr (.inr ⟨a1, a2, h1, h2, f, g, s.keep.2 _ U (fun k x1 x2 => at0 r k (by omega)) (fun _ h => h), by rw [at0 r _ (by omega)]; exact b, ih r hx2 hx, e1, e2⟩))
end
/-- what settling changes -/
def FrS (S S' : St) : Prop := S'.2 = S.2 ∧ (∀ i, i ≠ 87 → i ≠ 99 → i ≠ 100 → S'.1 i = S.1 i) ∧ (∀ j, j ≠ 24 → j ≠ 30 → S'.1 87 j = S.1 87 j)
theorem FrS.refl (S : St) : FrS S S := ⟨rfl, fun _ _ _ _ => rfl, fun _ _ _ => rfl⟩
theorem FrS.trans {S S' S'' : St} (h : FrS S S') (h' : FrS S' S'') : FrS S S'' := ⟨h'.1.trans h.1, fun i a b c => (h'.2.1 i a b c).trans (h.2.1 i a b c), fun j a b => (h'.2.2 j a b).trans (h.2.2 j a b)⟩
theorem FrS.toE {S S' : St} (h : FrS S S') : FrE S S' := ⟨by rw [h.1], fun i a b c _ _ => h.2.1 i a b c, fun i _ => by rw [h.1], fun j _ _ _ _ _ a _ b _ => h.2.2 j a b, fun j _ => by rw [h.1]⟩
section
variable {G : Gm} {B S S' : St} {tk ts te tv : Nat → Nat} {tc : Nat} {od : Bool} {Q : Int32 → St → Prop} {K : St → Prop} {k p N : Nat} {c : Cd} {pl : List (Nat × Nat)}
theorem m_binds {o : Nat} (ho : 2 ≤ o ∧ o ≤ 14) (z : Q (nI (bn o)) S) : f_X11_binds G (nI (po o)) Q S := by
  have : o = 2 ∨ o = 3 ∨ o = 4 ∨ o = 5 ∨ o = 6 ∨ o = 7 ∨ o = 8 ∨ o = 9 ∨ o = 10 ∨ o = 11 ∨ o = 12 ∨ o = 13 ∨ o = 14 := by omega
  unfold f_X11_binds
  rcases this with rfl | rfl | rfl | rfl | rfl | rfl | rfl | rfl | rfl | rfl | rfl | rfl | rfl
  · exact ite_y (by decide) (ite_n (by decide) (ite_n (by decide) (ite_n (by decide) (ite_y (by decide) (ite_y (by decide) z)))))
  · exact ite_y (by decide) (ite_n (by decide) (ite_n (by decide) (ite_n (by decide) (ite_y (by decide) (ite_y (by decide) z)))))
  · exact ite_y (by decide) (ite_n (by decide) (ite_n (by decide) (ite_n (by decide) (ite_y (by decide) (ite_n (by decide) z)))))
  · exact ite_y (by decide) (ite_n (by decide) (ite_n (by decide) (ite_n (by decide) (ite_y (by decide) (ite_n (by decide) z)))))
  · exact ite_y (by decide) (ite_n (by decide) (ite_n (by decide) (ite_n (by decide) (ite_y (by decide) (ite_n (by decide) z)))))
  · exact ite_y (by decide) (ite_n (by decide) (ite_n (by decide) (ite_n (by decide) (ite_n (by decide) z))))
  · exact ite_y (by decide) (ite_n (by decide) (ite_n (by decide) (ite_n (by decide) (ite_n (by decide) z))))
  · exact ite_y (by decide) (ite_n (by decide) (ite_n (by decide) (ite_n (by decide) (ite_n (by decide) z))))
  · exact ite_y (by decide) (ite_n (by decide) (ite_n (by decide) (ite_y (by decide) z)))
  · exact ite_y (by decide) (ite_y (by decide) z)
  · exact ite_y (by decide) (ite_n (by decide) (ite_y (by decide) z))
  · exact ite_n (by decide) z
  · exact ite_n (by decide) z
/-- the state behind a pop -/
def popS (x : Nat × Nat) (n N : Nat) (S : St) : St := if x.1 ≤ 10 then uI (uI (uI (uI S 87 30 (nI n)) 99 N (nI (po x.1))) 100 N 0) 87 24 (nI N + 1) else uI (uI S 87 30 (nI n)) 100 x.2 (nI N)
theorem bn_le (o : Nat) : bn o ≤ 6 := by unfold bn; repeat' split
                                         all_goals omega
theorem m_pop {x : Nat × Nat} {ps : List (Nat × Nat)} {least n : Nat} (hS : ShR G S.2.2) (hP : PlR S (ps ++ [x])) (hl : ps.length < 400) (hN : S.1 87 24 = nI N) (hx : 2 ≤ x.1 ∧ x.1 ≤ 12) (h1 : x.1 ≤ 10 → N < 400) (h2 : 11 ≤ x.1 → x.2 < 400) (hb : least ≤ bn x.1) (z : f_X11_settle_0_n G 87 (nI least) K n (popS x ps.length N S)) : f_X11_settle_0_n G 87 (nI least) K (n + 1) S := by
  obtain ⟨p1, p2⟩ := hP
  rw [List.length_append, List.length_singleton] at p1
  obtain ⟨q1, q2⟩ := p2 ps.length x (by simp)
  have b6 := bn_le x.1
  rw [f_X11_settle_0_n]
  refine ite_n (by rw [p1, lit, leI (by omega) (by omega)]; omega) (ex_y hS.pile ?_)
  rw [p1, nI_pred, hS.pile_l, in_iff (by omega), clI (by omega), q1]
  refine ⟨hl, m_binds (by omega) (ite_n (by rw [ltI (by omega) (by omega)]; omega) (nm_e (ex_y (by exact hS.pile) ?_)))⟩
  rw [p1, nI_pred, show (uI S 87 30 (nI ps.length)).1 87 30 = nI ps.length from by rw [uI_s, if_pos rfl], hS.pile_l, in_iff (by omega), clI (by omega), uI_n _ _ _ _ (show (101 : Nat) ≠ 87 from by omega), q1]
  have go63 : 11 ≤ x.1 → f_X11_settle_63 G (f_X11_settle_0_n G 87 (nI least) K n) 87 (nI least) K (uI S 87 30 (nI ps.length)) := by
    intro h11
    refine ex_y (by exact hS.nArg) (ex_y (by exact hS.pileAt) ?_)
    rw [show (uI S 87 30 (nI ps.length)).1 87 30 = nI ps.length from by rw [uI_s, if_pos rfl], hS.pileAt_l, in_iff (by omega), clI (by omega), uI_n _ _ _ _ (show (102 : Nat) ≠ 87 from by omega), q2]
    have := h2 h11
    rw [hS.nArg_l, in_iff (by omega), clI (by omega)]
    refine ⟨hl, this, nm_e ?_⟩
    rw [uI_s, if_neg (by omega), hN]
    unfold popS at z
    rw [if_neg (by omega)] at z
    exact z
  have e101 : (uI S 87 30 (nI ps.length)).1 101 ps.length = nI (po x.1) := by rw [uI_n _ 87 _ _ (by omega)]; exact q1
  refine ⟨hl, ?_⟩
  by_cases e12 : x.1 = 12
  · refine ite_y (by rw [e12]; rfl) (go63 (by omega))
  by_cases e11 : x.1 = 11
  · refine ite_n (by rw [e11]; decide) (ex_y (by exact hS.pile) ?_)
    rw [e101, hS.pile_l, in_iff (by omega)]
    exact ⟨hl, ite_y (by rw [e11]; rfl) (go63 (by omega))⟩
  have pe : po x.1 = x.1 + 18 := by unfold po; rw [if_neg e11, if_neg e12]
  refine ite_n (by rw [pe, lit, eqI (by omega) (by omega)]; omega) (ex_y (by exact hS.pile) ?_)
  rw [e101, hS.pile_l, in_iff (by omega)]
  refine ⟨hl, ite_n (by rw [pe, lit, eqI (by omega) (by omega)]; omega) (ex_y (by exact hS.pile) ?_)⟩
  rw [e101, hS.pile_l, in_iff (by omega)]
  refine ⟨hl, ex_y (by exact hS.nOp) ?_⟩
  have n4 := h1 (by omega)
  rw [show (uI S 87 30 (nI ps.length)).1 87 24 = nI N from by rw [uI_s, if_neg (by omega)]; exact hN, hS.nOp_l, in_iff (by omega), clI (by omega)]
  refine ⟨n4, nm_e (ex_y (by exact hS.nArg) ?_)⟩
  rw [show (uI (uI S 87 30 (nI ps.length)) 99 N (nI (po x.1))).1 87 24 = nI N from by rw [uI_n _ _ _ _ (by omega), uI_s, if_neg (by omega)]; exact hN, hS.nArg_l, in_iff (by omega), clI (by omega)]
  refine ⟨n4, nm_e (nm_e ?_)⟩
  rw [show (uI (uI (uI S 87 30 (nI ps.length)) 99 N (nI (po x.1))) 100 N 0).1 87 24 = nI N from by rw [uI_n _ _ _ _ (by omega), uI_n _ _ _ _ (by omega), uI_s, if_neg (by omega)]; exact hN]
  unfold popS at z
  rw [if_pos (by omega)] at z
  exact z
theorem popS_f {x : Nat × Nat} {n : Nat} : FrS S (popS x n N S) := by
  unfold popS
  split
  · exact ⟨rfl, fun i a b c => by rw [uI_n _ _ _ _ a, uI_n _ _ _ _ c, uI_n _ _ _ _ b, uI_n _ _ _ _ a], fun j a b => by rw [uI_p _ _ _ _ a, uI_n _ _ _ _ (by omega), uI_n _ _ _ _ (by omega), uI_p _ _ _ _ b]⟩
  · exact ⟨rfl, fun i a b c => by rw [uI_n _ _ _ _ c, uI_n _ _ _ _ a], fun j a b => by rw [uI_n _ _ _ _ (by omega), uI_p _ _ _ _ b]⟩
theorem popS_24 {x : Nat × Nat} {n : Nat} (hN : S.1 87 24 = nI N) : (popS x n N S).1 87 24 = nI (popN x N) := by
  unfold popS popN
  split
  · rw [uI_s, if_pos rfl, nI_1]
  · rw [uI_n _ _ _ _ (by omega), uI_s, if_neg (by omega)]; exact hN
theorem popS_pl {x : Nat × Nat} {ps : List (Nat × Nat)} (hP : PlR S (ps ++ [x])) : PlR (popS x ps.length N S) ps := by
  have f := popS_f (S := S) (N := N) (x := x) (n := ps.length)
  refine ⟨?_, fun i y hy => ?_⟩
  · unfold popS
    split
    · rw [uI_s, if_neg (by omega), uI_n _ _ _ _ (by omega), uI_n _ _ _ _ (by omega), uI_s, if_pos rfl]
    · rw [uI_n _ _ _ _ (by omega), uI_s, if_pos rfl]
  · rw [f.2.1 101 (by omega) (by omega) (by omega), f.2.1 102 (by omega) (by omega) (by omega)]
    refine hP.2 i y ?_
    have hi : i < ps.length := by
      apply Classical.byContradiction
      intro h
      rw [List.getElem?_eq_none (by omega)] at hy
      cases hy
    rw [List.getElem?_append_left hi]; exact hy
theorem opR_po {x : Nat × Nat} {v : Nat} (hx : 2 ≤ x.1 ∧ x.1 ≤ 12) : opR od (x.1, v) = po x.1 := by
  have : x.1 = 2 ∨ x.1 = 3 ∨ x.1 = 4 ∨ x.1 = 5 ∨ x.1 = 6 ∨ x.1 = 7 ∨ x.1 = 8 ∨ x.1 = 9 ∨ x.1 = 10 ∨ x.1 = 11 ∨ x.1 = 12 := by omega
  rcases this with h | h | h | h | h | h | h | h | h | h | h <;> rw [h] <;> rfl
theorem agR_0 {o : Nat} (h : 2 ≤ o ∧ o ≤ 12) : agR od (o, 0) = 0 := by
  unfold agR; simp only []
  rw [if_neg (by omega), if_neg (by omega)]
  split <;> rfl
theorem popS_cd {x : Nat × Nat} {n : Nat} (hC : CdR S od N c) (hx : 2 ≤ x.1 ∧ x.1 ≤ 12) (h2 : 11 ≤ x.1 → x.2 < N ∧ (c x.2).1 = x.1) : CdR (popS x n N S) od (popN x N) (popC x N c) := by
  intro i hi
  unfold popN at hi
  unfold popS popC
  by_cases h10 : x.1 ≤ 10
  · rw [if_pos h10] at hi
    rw [if_pos h10, if_pos h10]
    have r1 : (uI (uI (uI (uI S 87 30 (nI n)) 99 N (nI (po x.1))) 100 N 0) 87 24 (nI N + 1)).1 99 i = if i = N then nI (po x.1) else S.1 99 i := by
      rw [uI_n _ 87 _ _ (by omega), uI_n _ 100 _ _ (by omega), uI_s, uI_n _ 87 _ _ (by omega)]
    have r2 : (uI (uI (uI (uI S 87 30 (nI n)) 99 N (nI (po x.1))) 100 N 0) 87 24 (nI N + 1)).1 100 i = if i = N then 0 else S.1 100 i := by
      rw [uI_n _ 87 _ _ (by omega), uI_s, uI_n _ 99 _ _ (by omega), uI_n _ 87 _ _ (by omega)]
    rw [r1, r2]
    by_cases e : i = N
    · subst e
      rw [if_pos rfl, if_pos rfl, updC_s, opR_po hx, agR_0 (by omega)]
      exact ⟨rfl, rfl⟩
    · rw [if_neg e, if_neg e, updC_n e]
      exact hC i (by omega)
  · rw [if_neg h10] at hi
    rw [if_neg h10, if_neg h10]
    obtain ⟨b1, b2⟩ := h2 (by omega)
    have r1 : (uI (uI S 87 30 (nI n)) 100 x.2 (nI N)).1 99 i = S.1 99 i := by
      rw [uI_n _ 100 _ _ (by omega), uI_n _ 87 _ _ (by omega)]
    have r2 : (uI (uI S 87 30 (nI n)) 100 x.2 (nI N)).1 100 i = if i = x.2 then nI N else S.1 100 i := by
      rw [uI_s, uI_n _ 87 _ _ (by omega)]
    rw [r1, r2]
    by_cases e : i = x.2
    · subst e
      rw [if_pos rfl, updC_s, opR_po hx]
      refine ⟨?_, ?_⟩
      · rw [(hC x.2 b1).1, ← opR_po (od := od) (v := (c x.2).2) hx, ← b2]
      · have : agR od (x.1, N) = N := by
          unfold agR; simp only []
          rw [if_neg (by omega), if_neg (by omega), if_neg (by omega)]
        rw [this]
    · rw [if_neg e, updC_n e]
      exact hC i hi
end
