-- needs: 200 201 202 203 204 210 211 220 221 222 223 224 225 226
/-! What the reference's law tells. -/
/-- what the reference holds of the parish, for its readers -/
def RfP (G : Gm) (S : St) (a : Nat → Nat) (L : Nat → Lw) : Prop := ShR G S.2.2 ∧ RowR (S.1 90) a ∧ Made (S.1 89) ∧ LwR (S.1 90) a L ∧ S.1 87 21 = 0 ∧ Va a
theorem RfP.fr {G : Gm} {S S' : St} {a : Nat → Nat} {L : Nat → Lw} (h : RfP G S a L) (f : FrR S S') : RfP G S' a L := by
  obtain ⟨h1, h2, h3, h4, h5, h6⟩ := h
  refine ⟨by rw [f.1]; exact h1, by rw [f.2.1 90 (by omega)]; exact h2, by rw [f.2.1 89 (by omega)]; exact h3, by rw [f.2.1 90 (by omega)]; exact h4, ?_, h6⟩
  rw [f.2.2.1 21 (by omega) (by omega)]; exact h5
section
variable {G : Gm} {S : St} {Q : Int32 → St → Prop} {K : Int64 → St → Prop} {a : Nat → Nat} {L : Nat → Lw}
theorem in13 (hS : ShR G S.2.2) {n : Nat} (hn : n < 13) : vp_in (nI n) (G.2.1 106) := by rw [hS.set_l, in_iff (by omega)]; exact hn
theorem inrow (hS : ShR G S.2.2) {n : Nat} (hn : n < 5485) : vp_in (nI n) (G.2.1 90) := by rw [hS.row_l, in_iff (by omega)]; exact hn
/-- the words are set; the loop -/
theorem m_147 {v w : Nat} {wo : Int64} {lw : Lw} {e : Nat → Int64} {u : Int64} {S0 : St} (hv : v ≤ 3) (hR0 : RfP G S0 a L) (hw : S.1 87 35 = nI w) (hwb : w + 898 ≤ 5485) (hlw : LawR (S0.1 90) w lw) (f0 : FrR S0 S) (hS7 : ∀ x, x < 6 → S.2.1 106 (x + 1) = e x) (e6 : u = e 6) (e7 : e 7 = lN (a 4)) (e8 : e 8 = lN (a 6)) (k : ∀ S', FrR S0 S' → K ((tel lw v e lw.1).getD wo) S') : f_X11_tells_147 G 87 (nI v) wo u 7 106 K S := by
  have hR := hR0.fr f0
  obtain ⟨hS, hr, hM, hl, ho, hV⟩ := hR
  have h3 := hV.2.2.2.2.1
  have h4 := hV.2.2.2.2.2.2.1
  refine ⟨in13 (n := 7) hS (by omega), nm_e (ex_y hS.set (ex_y hS.row ⟨inrow (n := 4) hS (by omega), in13 (n := 8) hS (by omega), nm_e (ex_y hS.set (ex_y hS.row ⟨inrow (n := 6) hS (by omega), in13 (n := 9) hS (by omega), nm_e ?_⟩))⟩))⟩
  have r4 : S.1 90 ((4 : Int32).toNatClampNeg) = nI (a 4) := hr.2.2.2.2.1 0 (by omega)
  have r6 : S.1 90 ((6 : Int32).toNatClampNeg) = nI (a 6) := hr.2.2.2.2.1 2 (by omega)
  have w4 : (nI (a 4)).toInt64 = lN (a 4) := nI_l (by omega)
  have w6 : (nI (a 6)).toInt64 = lN (a 6) := nI_l (by omega)
  show f_X11_tells_184 _ _ _ _ _ _ (uJ (uJ (uJ S 106 7 u) 106 8 (S.1 90 ((4 : Int32).toNatClampNeg)).toInt64) 106 9 (S.1 90 ((6 : Int32).toNatClampNeg)).toInt64)
  rw [r4, r6, w4, w6]
  have hw0 : LawR (S.1 90) w lw := by rw [f0.2.1 90 (by omega)]; exact hlw
  refine m_tells_l (e := e) hv hS ho hw hwb hw0 ?_ (fun S' f' => k S' ?_)
  · intro x hx
    have hx9 := lt9 hx
    by_cases h6 : x < 6
    · rw [uJ_s, if_neg (by omega), uJ_s, if_neg (by omega), uJ_s, if_neg (by omega)]; exact hS7 x h6
    · have : x = 6 ∨ x = 7 ∨ x = 8 := by omega
      rcases this with rfl | rfl | rfl
      · rw [uJ_s, if_neg (by omega), uJ_s, if_neg (by omega), uJ_s, if_pos rfl]; exact e6
      · rw [uJ_s, if_neg (by omega), uJ_s, if_pos rfl]; exact e7.symm
      · rw [uJ_s, if_pos rfl]; exact e8.symm
  · refine (f0.trans ?_).trans f'.toR
    exact ⟨rfl, fun _ _ => rfl, fun _ _ _ => rfl, fun i h1 h2 _ => by rw [uJ_n _ _ _ _ h2, uJ_n _ _ _ _ h2, uJ_n _ _ _ _ h2], fun k h1 h2 => by rw [uJ_n _ _ _ _ (by omega), uJ_n _ _ _ _ (by omega), uJ_n _ _ _ _ (by omega)]⟩
theorem frj {S0 S : St} {n : Nat} {v : Int64} (f : FrR S0 S) : FrR S0 (uJ S 106 n v) :=
  f.trans ⟨rfl, fun _ _ => rfl, fun _ _ _ => rfl, fun i h1 h2 _ => uJ_n _ _ _ _ h2, fun k h1 h2 => by rw [uJ_n _ _ _ _ (by omega)]⟩
theorem lawk {k : Nat} (hR : RfP G S a L) (hk : k < a 2) : LawR (S.1 90) (85 + 900 * k) (L k) := hR.2.2.2.1 k hk
/-- tells of a sin -/
theorem m_tellsS {v j k : Nat} {wo : Int64} (hR : RfP G S a L) (hv : v ≤ 3) (hj : j < 6) (hk : k < 4) (z : ∀ S', FrR S S' → K ((telO (frc a L) v (eS a j k)).getD wo) S') : f_X11_tells G 87 (nI v) (nI j) (nI k) (-1) wo K S := by
  obtain ⟨hS, hr, hM, hl, ho, hV⟩ := id hR
  have a3 := hV.2.2.2.1
  have a2 := hV.2.2.1
  have s8 := hV.sin (i := 4 * j + k) (by omega)
  have s32 := sn4_le hV hj
  have r3 : S.1 90 ((3 : Int32).toNatClampNeg) = nI (a 3) - 1 := hr.2.2.2.1
  refine ex_y hS.row ⟨inrow (n := 3) hS (by omega), ?_⟩
  rw [r3]
  by_cases h0 : a 3 = 0
  · rw [h0]
    refine ite_y (by decide) ?_
    have := z S (FrR.refl S)
    unfold frc at this
    rw [if_pos h0] at this
    exact this
  · rw [show nI (a 3) - 1 = nI (a 3 - 1) from by rw [lit, sbI (by omega)]]
    refine ite_n ?_ (ex_y hS.row ⟨inrow (n := 3) hS (by omega), ?_⟩)
    · intro h
      have h' := congrArg Int32.toInt h
      rw [nI_toInt (by omega)] at h'
      have : (-1 : Int32).toInt = -1 := rfl
      omega
    rw [r3, show nI (a 3) - 1 = nI (a 3 - 1) from by rw [lit, sbI (by omega)]]
    refine nm_p (e' := uI S 87 35 (nI (85 + 900 * (a 3 - 1)))) (by rw [lit, lit, pk_mul, nI_add]) ?_
    refine ex_y hS.set ⟨in13 (n := 1) hS (by omega), nm_e (ex_y hS.set ⟨in13 (n := 2) hS (by omega), nm_e (ex_y hS.set (ite_n ?_ (ex_y hS.row ?_)))⟩)⟩
    · intro h
      have h' := congrArg Int32.toInt h
      rw [nI_toInt (by omega)] at h'
      have : (-1 : Int32).toInt = -1 := rfl
      omega
    simp (disch := omega) only [nI_add, pk_mul, show (8 : Int32) = nI 8 from rfl, show (4 : Int32) = nI 4 from rfl, clI, in_iff]
    rw [hS.row_l]
    refine ⟨by omega, ?_⟩
    refine ⟨in13 (n := 3) hS (by omega), nm_e (ex_y hS.set ?_)⟩
    refine m_sinsOf (a := a) hS ?_ hj ?_
    · exact hr
    refine ⟨in13 (n := 4) hS (by omega), nm_e (ex_y hS.set ⟨in13 (n := 5) hS (by omega), nm_e (ex_y hS.set (ite_y rfl ⟨in13 (n := 6) hS (by omega), nm_e (ex_y hS.set (ite_y rfl ?_))⟩))⟩)⟩
    have f1 : FrR S (uI S 87 35 (nI (85 + 900 * (a 3 - 1)))) := ⟨rfl, fun i hi => uI_n _ _ _ _ hi, fun k h1 h2 => uI_p _ _ _ _ h1, fun _ _ _ _ => rfl, fun _ _ _ => rfl⟩
    have f2 : FrR S (uJ (uJ (uJ (uJ (uJ (uJ (uI S 87 35 (nI (85 + 900 * (a 3 - 1)))) 106 1 (nI j).toInt64) 106 2 (nI k).toInt64) 106 3 (S.1 90 (8 + 4 * j + k)).toInt64) 106 4 (nI (sn4 a j)).toInt64) 106 5 (-1 : Int32).toInt64) 106 6 (-1)) := frj (frj (frj (frj (frj (frj f1)))))
    have hlw := lawk hR (k := a 3 - 1) (by omega)
    refine m_147 (w := 85 + 900 * (a 3 - 1)) (lw := L (a 3 - 1)) (e := eS a j k) hv hR ?_ (by omega) hlw f2 ?_ rfl rfl rfl ?_
    · show (uI S 87 35 (nI (85 + 900 * (a 3 - 1)))).1 87 35 = _
      rw [uI_s, if_pos rfl]
    · intro x hx
      have rs : S.1 90 (8 + 4 * j + k) = nI (a (8 + (4 * j + k))) := by rw [show 8 + 4 * j + k = 8 + (4 * j + k) from by omega]; exact hr.2.2.2.2.2.1 _ (by omega)
      have : x = 0 ∨ x = 1 ∨ x = 2 ∨ x = 3 ∨ x = 4 ∨ x = 5 := by omega
      show (uJ (uJ (uJ (uJ (uJ (uJ (uI S 87 35 (nI (85 + 900 * (a 3 - 1)))) 106 1 (nI j).toInt64) 106 2 (nI k).toInt64) 106 3 (S.1 90 (8 + 4 * j + k)).toInt64) 106 4 (nI (sn4 a j)).toInt64) 106 5 (-1 : Int32).toInt64) 106 6 (-1)).2.1 106 (x + 1) = _
      rw [rs]
      rcases this with rfl | rfl | rfl | rfl | rfl | rfl <;> simp only [uJ_s, uJ_n, eS, Nat.reduceAdd, Nat.reduceEqDiff, if_true, if_false, Nat.one_ne_zero, Nat.zero_ne_one, reduceCtorEq, Nat.zero_add] <;> first | exact nI_l (by omega) | rfl
    · intro S' f'
      have := z S' f'
      unfold frc at this
      rw [if_neg h0] at this
      exact this
/-- tells of a person -/
theorem m_tellsP {v j s : Nat} {wo : Int64} (hR : RfP G S a L) (hv : v ≤ 3) (hj : j < 6) (hs : s < 256) (z : ∀ S', FrR S S' → K ((telO (frc a L) v (eP a j s)).getD wo) S') : f_X11_tells G 87 (nI v) (nI j) (-1) (nI s) wo K S := by
  obtain ⟨hS, hr, hM, hl, ho, hV⟩ := id hR
  have a3 := hV.2.2.2.1
  have a2 := hV.2.2.1
  have s32 := sn4_le hV hj
  have l8 := litN_le s
  have w8 := lowN_le s
  have r3 : S.1 90 ((3 : Int32).toNatClampNeg) = nI (a 3) - 1 := hr.2.2.2.1
  have sn : ¬ nI s = -1 := by
    intro h
    have h' := congrArg Int32.toInt h
    rw [nI_toInt (by omega)] at h'
    have : (-1 : Int32).toInt = -1 := rfl
    omega
  refine ex_y hS.row ⟨inrow (n := 3) hS (by omega), ?_⟩
  rw [r3]
  by_cases h0 : a 3 = 0
  · rw [h0]
    refine ite_y (by decide) ?_
    have := z S (FrR.refl S)
    unfold frc at this
    rw [if_pos h0] at this
    exact this
  · rw [show nI (a 3) - 1 = nI (a 3 - 1) from by rw [lit, sbI (by omega)]]
    refine ite_n ?_ (ex_y hS.row ⟨inrow (n := 3) hS (by omega), ?_⟩)
    · intro h
      have h' := congrArg Int32.toInt h
      rw [nI_toInt (by omega)] at h'
      have : (-1 : Int32).toInt = -1 := rfl
      omega
    rw [r3, show nI (a 3) - 1 = nI (a 3 - 1) from by rw [lit, sbI (by omega)]]
    refine nm_p (e' := uI S 87 35 (nI (85 + 900 * (a 3 - 1)))) (by rw [lit, lit, pk_mul, nI_add]) ?_
    refine ex_y hS.set ⟨in13 (n := 1) hS (by omega), nm_e (ex_y hS.set ⟨in13 (n := 2) hS (by omega), nm_e (ex_y hS.set (ite_y rfl ?_))⟩)⟩
    refine ⟨in13 (n := 3) hS (by omega), nm_e (ex_y hS.set ?_)⟩
    refine m_sinsOf (a := a) hS ?_ hj ?_
    · exact hr
    refine ⟨in13 (n := 4) hS (by omega), nm_e (ex_y hS.set ⟨in13 (n := 5) hS (by omega), nm_e (ex_y hS.set (ite_n sn (m_litOf hs ⟨in13 (n := 6) hS (by omega), nm_e (ex_y hS.set (ite_n sn (m_firstOf hs ?_)))⟩)))⟩)⟩
    have f1 : FrR S (uI S 87 35 (nI (85 + 900 * (a 3 - 1)))) := ⟨rfl, fun i hi => uI_n _ _ _ _ hi, fun k h1 h2 => uI_p _ _ _ _ h1, fun _ _ _ _ => rfl, fun _ _ _ => rfl⟩
    have f2 : FrR S (uJ (uJ (uJ (uJ (uJ (uJ (uI S 87 35 (nI (85 + 900 * (a 3 - 1)))) 106 1 (nI j).toInt64) 106 2 (-1 : Int32).toInt64) 106 3 (-1)) 106 4 (nI (sn4 a j)).toInt64) 106 5 (nI s).toInt64) 106 6 (nI (litN s)).toInt64) := frj (frj (frj (frj (frj (frj f1)))))
    have hlw := lawk hR (k := a 3 - 1) (by omega)
    refine m_147 (w := 85 + 900 * (a 3 - 1)) (lw := L (a 3 - 1)) (e := eP a j s) hv hR ?_ (by omega) hlw f2 ?_ ?_ rfl rfl ?_
    · show (uI S 87 35 (nI (85 + 900 * (a 3 - 1)))).1 87 35 = _
      rw [uI_s, if_pos rfl]
    · intro x hx
      have : x = 0 ∨ x = 1 ∨ x = 2 ∨ x = 3 ∨ x = 4 ∨ x = 5 := by omega
      rcases this with rfl | rfl | rfl | rfl | rfl | rfl <;> simp only [uJ_s, uJ_n, eP, Nat.reduceAdd, Nat.reduceEqDiff, if_true, if_false, Nat.one_ne_zero, Nat.zero_ne_one, reduceCtorEq, Nat.zero_add] <;> first | exact nI_l (by omega) | rfl
    · exact nI_l (by omega)
    · intro S' f'
      have := z S' f'
      unfold frc at this
      rw [if_neg h0] at this
      exact this
theorem m_within {v : Int64} {lo hi : Int32} (h : ∀ r, r.toInt = max lo.toInt (min hi.toInt v.toInt) → Q r S) (hlh : lo.toInt ≤ hi.toInt) : f_X11_within G v lo hi Q S := by
  unfold f_X11_within
  refine ite_c (fun d => ?_) (fun d => ?_)
  · rw [cmp_ge, i32_64] at d
    refine ite_c (fun d2 => ?_) (fun d2 => ?_)
    · rw [cmp_le, i32_64] at d2
      refine h _ ?_
      rw [Int64.toInt_toInt32]
      have b1 := Int32.le_toInt lo
      have b2 := Int32.toInt_lt hi
      rw [Int.bmod_eq_of_le (by omega) (by omega)]
      omega
    · rw [cmp_le, i32_64] at d2
      exact h _ (by omega)
  · rw [cmp_ge, i32_64] at d
    exact h _ (by omega)
theorem i32n {r : Int32} {n : Nat} (hn : n < 2147483648) (h : r.toInt = n) : r = nI n := by
  apply Int32.toInt_inj.mp; rw [h, nI_toInt (by omega)]
theorem m_grindsOf {j k : Nat} (hR : RfP G S a L) (hj : j < 6) (hk : k < 4) (z : ∀ S', FrR S S' → Q (nI (lenA (frc a L) a j k)) S') : f_X11_grindsOf G 87 (nI j) (nI k) Q S := by
  obtain ⟨hS, hr, hM, hl, ho, hV⟩ := id hR
  have s8 := hV.sin (i := 4 * j + k) (by omega)
  refine ex_y hS.row ?_
  simp (disch := omega) only [nI_add, pk_mul, show (8 : Int32) = nI 8 from rfl, show (4 : Int32) = nI 4 from rfl, clI, in_iff]
  have rs : S.1 90 (8 + 4 * j + k) = nI (a (8 + (4 * j + k))) := by rw [show 8 + 4 * j + k = 8 + (4 * j + k) from by omega]; exact hr.2.2.2.2.2.1 _ (by omega)
  rw [hS.row_l, rs]
  refine ⟨by omega, ?_⟩
  have fin : ∀ (wo : Int64) (n : Nat), wo.toInt = n → n ≤ 7 → (telO (frc a L) 0 (eS a j k) = none → n = lenA (frc a L) a j k) → f_X11_grindsOf_30 G wo (-1) (nI k) (nI j) 0 87 Q S := by
    intro wo n hw hn h0
    refine m_tellsS (v := 0) hR (by omega) hj hk (fun S' f' => m_within (fun r hr => ?_) (by decide))
    have hz := z S' f'
    have : r = nI (lenA (frc a L) a j k) := by
      have l7 := lenA_le (lo := frc a L) (a := a) (j := j) hk
      refine i32n (by omega) ?_
      rw [hr]
      have e0 : (0 : Int32).toInt = 0 := rfl
      have e7 : (7 : Int32).toInt = 7 := rfl
      cases ht : telO (frc a L) 0 (eS a j k) with
      | none =>
        show max _ (min _ wo.toInt) = _
        rw [hw, ← h0 ht]; omega
      | some v =>
        show max _ (min _ v.toInt) = _
        unfold lenA; rw [ht]
        simp only []
        unfold clN; omega
    rw [this]; exact hz
  refine ite_c (fun d => ?_) (fun d => ?_)
  · rw [leI (by omega) (by omega)] at d
    refine fin _ (k + 1) ?_ (by omega) (fun ht => ?_)
    · rw [nI_l (by omega), lN_1, lN_toInt (by omega)]
    · unfold lenA; rw [ht]; simp only []; rw [if_neg (by omega)]
  · rw [leI (by omega) (by omega)] at d
    refine fin _ 0 rfl (by omega) (fun ht => ?_)
    unfold lenA; rw [ht]; simp only []; rw [if_pos (by omega)]
theorem m_growsOf {j k : Nat} (hR : RfP G S a L) (hj : j < 6) (hk : k < 4) (z : ∀ S' r, r.toInt = grwA (frc a L) a j k → FrR S S' → Q r S') : f_X11_growsOf G 87 (nI j) (nI k) Q S := by
  refine m_tellsS (v := 1) hR (by omega) hj hk (fun S' f' => m_within (fun r hr => z S' r ?_ f') (by decide))
  rw [hr]
  have e0 : (-8 : Int32).toInt = -8 := rfl
  have e7 : (8 : Int32).toInt = 8 := rfl
  unfold grwA
  cases ht : telO (frc a L) 1 (eS a j k) with
  | none => rfl
  | some v =>
    show max _ (min _ v.toInt) = _
    simp only []
    unfold cl8; omega
theorem m_doesOf {j s : Nat} (hR : RfP G S a L) (hj : j < 6) (hs : s < 256) (z : ∀ S', FrR S S' → Q (nI (ddA (frc a L) a j s)) S') : f_X11_doesOf G 87 (nI j) (nI s) Q S := by
  have l8 := litN_le s
  refine m_litOf hs ?_
  rw [show (4 : Int32) = nI 4 from rfl, rmI (by omega) (by omega) (by omega), nI_l (by omega)]
  refine m_tellsP (v := 2) hR (by omega) hj hs (fun S' f' => m_within (fun r hr => ?_) (by decide))
  have hz := z S' f'
  have : r = nI (ddA (frc a L) a j s) := by
    have l7 := ddA_le (lo := frc a L) (a := a) (j := j) (s := s)
    refine i32n (by omega) ?_
    rw [hr]
    have e0 : (0 : Int32).toInt = 0 := rfl
    have e7 : (3 : Int32).toInt = 3 := rfl
    unfold ddA
    cases ht : telO (frc a L) 2 (eP a j s) with
    | none =>
      show max _ (min _ (lN _).toInt) = _
      rw [lN_toInt (by omega)]
      simp only []
      omega
    | some v =>
      show max _ (min _ v.toInt) = _
      simp only []
      unfold clN; omega
  rw [this]; exact hz
theorem tel3 {lw : Lw} {e : Nat → Int64} : ∀ n, tel lw 3 e n = none ∨ tel lw 3 e n = some 1 := by
  intro n
  induction n with
  | zero => exact .inl rfl
  | succ n ih =>
    unfold tel
    split
    · exact .inr rfl
    · exact ih
theorem m_isBarred {j : Nat} (hR : RfP G S a L) (hj : j < 6) (z : ∀ S', FrR S S' → Q (if barA (frc a L) a j = true then 1 else 0) S') : f_X11_isBarred G 87 (nI j) Q S := by
  obtain ⟨hS, hr, hM, hl, ho, hV⟩ := id hR
  refine m_sightOf hS hr hM hV hj ?_
  refine m_tellsP (v := 3) hR (by omega) hj (sgt_lt hV hj) (fun S' f' => ?_)
  have hz := z S' f'
  unfold barA at hz
  have h3 : telO (frc a L) 3 (eP a j (sgt a j)) = none ∨ telO (frc a L) 3 (eP a j (sgt a j)) = some 1 := by
    cases frc a L with
    | none => exact .inl rfl
    | some lw => exact tel3 _
  rcases h3 with h | h
  · rw [h] at hz ⊢
    exact ite_n (by decide) hz
  · rw [h] at hz ⊢
    exact ite_y (by decide) hz
end
