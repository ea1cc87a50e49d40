-- needs: 377
/-! mildest. -/
def mdA (P : Nat → Prop) [DecidablePred P] (v : Nat → Int32) (d : Int32) : Nat → Int32
  | 0 => d
  | n + 1 => if P (7 - n) then v (7 - n) else mdA P v d n
theorem mdA_no {P : Nat → Prop} [DecidablePred P] {v : Nat → Int32} {d : Int32} : ∀ n, n ≤ 8 → (∀ i, i < 8 → ¬ P i) → mdA P v d n = d := by
  intro n
  induction n with
  | zero => intro _ _; rfl
  | succ n ih => intro h hp; rw [mdA, if_neg (hp _ (by omega))]; exact ih (by omega) hp
abbrev sut (a : Rw) (L : Nat → Lw) (j x : Nat) : Prop := ddA (frc a L) a j x = a (38 + j)
abbrev mP1 (a : Rw) (L : Nat → Lw) (j : Nat) (l : Nat) : Prop := sut a L j (bd l (a 7))
abbrev mP2 (a : Rw) (L : Nat → Lw) (j : Nat) (l : Nat) (b : Nat) : Prop := sut a L j (bd b (bd l (a 7)))
def mdB (a : Rw) (L : Nat → Lw) (j : Nat) : Nat → Int32
  | 0 => -1
  | n + 1 => mdA (mP2 a L j (7 - n)) (fun b => nI (10 * (7 - n) + b + 11)) (mdB a L j n) 8
def mdR (a : Rw) (L : Nat → Lw) (j : Nat) : Int32 := mdA (mP1 a L j) (fun l => nI (l + 1)) (mdB a L j 8) 8
theorem th_1 {l x : Nat} (hl : l < 8) : thC (l + 1) x = bd l x := by
  unfold thC
  rw [show (l + 1) % 10 = l + 1 from by omega, show (l + 1) / 10 % 10 = 0 from by omega, show (l + 1) / 100 % 10 = 0 from by omega, show (l + 1) / 1000 % 10 = 0 from by omega]
  rfl
theorem th_2 {l b x : Nat} (hl : l < 8) (hb : b < 8) : thC (10 * l + b + 11) x = bd b (bd l x) := by
  unfold thC
  rw [show (10 * l + b + 11) % 10 = b + 1 from by omega, show (10 * l + b + 11) / 10 % 10 = l + 1 from by omega, show (10 * l + b + 11) / 100 % 10 = 0 from by omega, show (10 * l + b + 11) / 1000 % 10 = 0 from by omega]
  rfl
section
variable {G : Gm} {S S' : St} {a m : Rw} {L : Nat → Lw} {I : Im} {un tn : Nat} {u : Un} {T : Nat → Nat} {fl : Nat → Int32} {Q : Int32 → St → Prop} {K : Gm → St → Prop}
theorem c_suits {j g : Nat} (hC : Cls G S a L I un u T tn fl m) (hV : Va a) (hj : j < a 0) (hg : okG g) (h1 : ∀ S', Cls G S' a L I un u T tn fl m → OffR S S' → sut a L j (thC g (a 7)) → Q 1 S') (h0 : ∀ S', Cls G S' a L I un u T tn fl m → OffR S S' → ¬ sut a L j (thC g (a 7)) → Q 0 S') : f_X4_suits G 54 1 (nI j) (nI g) Q S := by
  have h6 := hV.1
  have hw := hV.wa (i := j) (by omega)
  have hd := ddA_le (lo := frc a L) (a := a) (j := j) (s := thC g (a 7))
  refine c_termOf (k := 3) hC.1.p1 hC.2.1 (by omega) ?_
  show f_X3_through G (nI g) (nI (a 7)) _ S
  refine c_through hg hV.sc (ex_y hC.1.r54_0 ?_)
  refine c_deed hC.1.j55 hC.1.p1 hC.2.1 hV hC.2.2.1.1 (by omega) (by omega) hj (thC_lt hg hV.sc) (fun S1 f1 => ?_)
  have hC1 := hC.frJ f1 (by omega)
  refine c_wantedOf hC1.1.p1 hC1.2.1 hV hj ?_
  have o1 := f1.offR (by omega)
  refine ite_c (fun e => ?_) (fun e => ?_)
  · rw [eqI (by omega) (by omega)] at e; exact h1 _ hC1 o1 e
  · rw [eqI (by omega) (by omega)] at e; exact h0 _ hC1 o1 e
theorem C_mild {j : Nat} (hC : Cls G S a L I un u T tn fl m) (hV : Va a) (hj : j < a 0) (z : ∀ S', Cls G S' a L I un u T tn fl m → OffR S S' → Q (if sut a L j (a 7) then 0 else mdR a L j) S') : f_X4_mildestFor G 54 1 (nI j) Q S := by
  refine c_suits (g := 0) hC hV hj (by unfold okG; omega) (fun S1 hC1 o1 e => ite_n (by decide) ?_) (fun S1 hC1 o1 e => ite_y rfl ?_)
  · have w := z S1 hC1 o1
    rw [if_pos (show sut a L j (a 7) from e)] at w; exact w
  have e : ¬ sut a L j (a 7) := e
  rw [if_neg e] at z
  have s3 : ∀ (k : Int32 → St → Prop) (n l : Nat) (S2 : St), n ≤ 7 → 1 ≤ l → l < 8 → mdR a L j = mdA (mP2 a L j l) (fun b => nI (10 * l + b + 11)) (mdB a L j (7 - l)) n → (∀ S', Cls G S' a L I un u T tn fl m → OffR S S' → mdR a L j = mdB a L j (7 - l) → k (nI (l + 1)) S') → Cls G S2 a L I un u T tn fl m → OffR S S2 → f_X4_mildestFor_53_n G k 54 1 (nI j) (nI l) Q (n + 1) (nI (8 - n)) S2 := by
    intro k n
    induction n with
    | zero =>
      intro l S2 hn h1 h8 ea hk hC2 o2
      rw [f_X4_mildestFor_53_n, nI_1]
      exact ite_y (by decide) (hk S2 hC2 o2 ea)
    | succ n ih =>
      intro l S2 hn h1 h8 ea hk hC2 o2
      rw [f_X4_mildestFor_53_n, nI_1]
      refine ite_n (by simp (disch := omega) only [lit, nI_add, pk_mul, leI, ltI, eqI]; omega) (nm_p (e' := nI (10 * l + (7 - n) + 11)) ?_ ?_)
      · rw [show (10 : Int32) = nI 10 from rfl, pk_mul, nI_add, nI_1]
        exact congrArg nI (by omega)
      rw [mdA] at ea
      refine c_suits hC2 hV hj (by unfold okG; omega) (fun S3 hC3 o3 e3 => ite_n (by decide) ?_) (fun S3 hC3 o3 e3 => ite_y rfl ?_)
      · rw [th_2 h8 (by omega)] at e3
        rw [if_pos e3] at ea
        have w := z S3 hC3 (o2.trans o3)
        rw [ea] at w; exact w
      · rw [th_2 h8 (by omega)] at e3
        rw [if_neg e3] at ea
        rw [nI_1, show 8 - (n + 1) + 1 = 8 - n from by omega]
        exact ih l S3 (by omega) h1 h8 ea hk hC3 (o2.trans o3)
  have s2 : ∀ (n : Nat) (S2 : St), n ≤ 7 → (∀ l, l < 8 → ¬ mP1 a L j l) → mdR a L j = mdB a L j n → Cls G S2 a L I un u T tn fl m → OffR S S2 → f_X4_mildestFor_44_n G 54 1 (nI j) Q (n + 1) (nI (8 - n)) S2 := by
    intro n
    induction n with
    | zero =>
      intro S2 hn np ea hC2 o2
      rw [f_X4_mildestFor_44_n]
      have w := z S2 hC2 o2
      rw [ea] at w
      exact ite_y (by decide) w
    | succ n ih =>
      intro S2 hn np ea hC2 o2
      rw [f_X4_mildestFor_44_n]
      refine ite_n (by simp (disch := omega) only [lit, nI_add, pk_mul, leI, ltI, eqI]; omega) ⟨8, ?_⟩
      have b0 : ¬ mP2 a L j (7 - n) (7 - 7) := np (7 - n) (by omega)
      rw [mdB, mdA, if_neg b0] at ea
      refine s3 _ 7 (8 - (n + 1)) S2 (by omega) (by omega) (by omega) ?_ ?_ hC2 o2
      · rw [show 8 - (n + 1) = 7 - n from by omega, show 7 - (7 - n) = n from by omega]; exact ea
      · intro S3 hC3 o3 e3
        rw [show 7 - (8 - (n + 1)) = n from by omega] at e3
        rw [show 8 - (n + 1) + 1 = 8 - n from by omega]
        exact ih S3 (by omega) np e3 hC3 o3
  have s1 : ∀ (n : Nat) (S2 : St), n ≤ 7 → (∀ l, l < 8 - n → ¬ mP1 a L j l) → mdR a L j = mdA (mP1 a L j) (fun l => nI (l + 1)) (mdB a L j 8) n → Cls G S2 a L I un u T tn fl m → OffR S S2 → f_X4_mildestFor_14_n G 54 1 (nI j) Q (n + 1) (nI (8 - n)) S2 := by
    intro n
    induction n with
    | zero =>
      intro S2 hn np ea hC2 o2
      rw [f_X4_mildestFor_14_n]
      refine ite_y (by decide) ⟨8, s2 7 S2 (by omega) np ?_ hC2 o2⟩
      have e2 : mdR a L j = mdB a L j 8 := ea
      rw [e2, mdB]
      exact mdA_no 8 (by omega) (fun i hi => np i hi)
    | succ n ih =>
      intro S2 hn np ea hC2 o2
      rw [f_X4_mildestFor_14_n]
      rw [mdA] at ea
      rw [nI_1]
      refine ite_n (by simp (disch := omega) only [lit, nI_add, pk_mul, leI, ltI, eqI]; omega) (c_suits hC2 hV hj (by unfold okG; omega) (fun S3 hC3 o3 e3 => ite_n (by decide) ?_) (fun S3 hC3 o3 e3 => ite_y rfl ?_))
      · rw [th_1 (by omega), show 8 - (n + 1) = 7 - n from by omega] at e3
        rw [if_pos e3] at ea
        have w := z S3 hC3 (o2.trans o3)
        rw [ea] at w
        rw [show 8 - (n + 1) + 1 = 7 - n + 1 from by omega]; exact w
      · rw [th_1 (by omega), show 8 - (n + 1) = 7 - n from by omega] at e3
        rw [if_neg e3] at ea
        rw [show 8 - (n + 1) + 1 = 8 - n from by omega]
        refine ih S3 (by omega) (fun l hl => ?_) ea hC3 (o2.trans o3)
        by_cases c : l = 7 - n
        · rw [c]; exact e3
        · exact np l (by omega)
  refine ⟨8, s1 7 S1 (by omega) (fun l hl => ?_) ?_ hC1 o1⟩
  · obtain rfl : l = 0 := by omega
    exact e
  · unfold mdR
    rw [mdA, if_neg (show ¬ mP1 a L j (7 - 7) from e)]
theorem M_mild {j : Nat} (hR : Ref G S a L I un u T tn fl m) (hV : Va a) (hj : j < a 0) (z : ∀ S', Ref G S' a L I un u T tn fl m → OffC S S' → Q (mdR a L j) S') : f_X11_mildest_52 G 87 (nI j) (nI (a 7)) (nI (a (38 + j))) Q (-1) 7 S := by
  have h6 := hV.1
  have hw := hV.wa (i := j) (by omega)
  have hsc := hV.sc
  have hd : ∀ {s : Nat}, _ := fun {s} => ddA_le (lo := frc a L) (a := a) (j := j) (s := s)
  have m1 : ∀ n : Nat, nI (n + 1) + (-1) = nI n := fun n => by rw [← Int32.sub_eq_add_neg]; exact nI_pred n
  have s1 : ∀ (n : Nat) (S2 : St), n ≤ 8 → Ref G S2 a L I un u T tn fl m → OffC S S2 → f_X11_mildest_134_n G 87 (nI j) (nI (a 7)) (nI (a (38 + j))) Q (n + 1) (mdA (mP1 a L j) (fun l => nI (l + 1)) (mdB a L j 8) (8 - n)) (nI n - 1) S2 := by
    intro n
    induction n with
    | zero =>
      intro S2 hn hR2 o2
      rw [f_X11_mildest_134_n]
      exact ite_y (by decide) (z S2 hR2 o2)
    | succ n ih =>
      intro S2 hn hR2 o2
      rw [f_X11_mildest_134_n, nI_pred]
      have bl := bd_lt (l := n) (x := a 7) (by omega) hsc
      refine ite_n (by simp (disch := omega) only [lit, nI_add, pk_mul, leI, ltI, eqI]; omega) (ex_y hR2.1.1.made ?_)
      simp (disch := omega) only [show (256 : Int32) = nI 256 from rfl, nI_add, pk_mul, clI, in_iff]
      rw [hR2.1.1.made_l, hR2.1.2.2.1 n (by omega) (a 7) hsc]
      refine ⟨by omega, m_doesOf (hR2.rfp hV) (by omega) bl (fun S3 f3 => ?_)⟩
      have w := ih S3 (by omega) (hR2.frR f3) (o2.trans f3.offC)
      rw [show 8 - n = (8 - (n + 1)) + 1 from by omega, mdA, show 7 - (8 - (n + 1)) = n from by omega] at w
      have hd := hd (s := bd n (a 7))
      rw [← Int32.sub_eq_add_neg]
      refine ite_c (fun e => ?_) (fun e => ?_)
      · rw [eqI (by omega) (by omega)] at e
        rw [if_pos (show sut a L j (bd n (a 7)) from e)] at w
        exact nm_p (nI_1 n) w
      · rw [eqI (by omega) (by omega)] at e
        rw [if_neg (show ¬ sut a L j (bd n (a 7)) from e)] at w; exact w
  have s3 : ∀ (k : Int32 → Int32 → St → Prop) (n l : Nat) (d : Int32) (S2 : St), n ≤ 8 → l < 8 → (∀ S', Ref G S' a L I un u T tn fl m → OffC S S' → k (mdA (mP2 a L j l) (fun b => nI (10 * l + b + 11)) d 8) (nI l - 1) S') → Ref G S2 a L I un u T tn fl m → OffC S S2 → f_X11_mildest_61_n G k 87 (nI j) (nI (a 7)) (nI (a (38 + j))) (nI l) Q (n + 1) (mdA (mP2 a L j l) (fun b => nI (10 * l + b + 11)) d (8 - n)) (nI n - 1) S2 := by
    intro k n
    induction n with
    | zero =>
      intro l d S2 hn hl hk hR2 o2
      rw [f_X11_mildest_61_n]
      refine ite_y (by decide) ?_
      rw [← Int32.sub_eq_add_neg]
      exact hk S2 hR2 o2
    | succ n ih =>
      intro l d S2 hn hl hk hR2 o2
      rw [f_X11_mildest_61_n, nI_pred]
      have bl := bd_lt (l := l) (x := a 7) (by omega) hsc
      have bb := bd_lt (l := n) (x := bd l (a 7)) (by omega) bl
      refine ite_n (by simp (disch := omega) only [lit, nI_add, pk_mul, leI, ltI, eqI]; omega) (ex_y hR2.1.1.made (ex_y hR2.1.1.made ?_))
      have e1 : S2.1 89 ((256 * nI l + nI (a 7)).toNatClampNeg) = nI (bd l (a 7)) := by
        rw [show (256 : Int32) = nI 256 from rfl, pk_mul, nI_add, clI (by omega)]
        exact hR2.1.2.2.1 l (by omega) (a 7) hsc
      have e2 : S2.1 89 ((256 * nI n + nI (bd l (a 7))).toNatClampNeg) = nI (bd n (bd l (a 7))) := by
        rw [show (256 : Int32) = nI 256 from rfl, pk_mul, nI_add, clI (by omega)]
        exact hR2.1.2.2.1 n (by omega) _ bl
      rw [e1, e2, hR2.1.1.made_l]
      refine ⟨by rw [show (256 : Int32) = nI 256 from rfl, pk_mul, nI_add, in_iff (by omega)]; omega, by rw [show (256 : Int32) = nI 256 from rfl, pk_mul, nI_add, in_iff (by omega)]; omega, m_doesOf (hR2.rfp hV) (by omega) bb (fun S3 f3 => ?_)⟩
      have w := ih l d S3 (by omega) hl hk (hR2.frR f3) (o2.trans f3.offC)
      rw [show 8 - n = (8 - (n + 1)) + 1 from by omega, mdA, show 7 - (8 - (n + 1)) = n from by omega] at w
      have hd := hd (s := bd n (bd l (a 7)))
      rw [← Int32.sub_eq_add_neg]
      refine ite_c (fun e => ?_) (fun e => ?_)
      · rw [eqI (by omega) (by omega)] at e
        rw [if_pos (show sut a L j (bd n (bd l (a 7))) from e)] at w
        exact nm_p (by rw [show (10 : Int32) = nI 10 from rfl, show (11 : Int32) = nI 11 from rfl, pk_mul, nI_add, nI_add]) w
      · rw [eqI (by omega) (by omega)] at e
        rw [if_neg (show ¬ sut a L j (bd n (bd l (a 7))) from e)] at w; exact w
  have s2 : ∀ (n : Nat) (S2 : St), n ≤ 8 → Ref G S2 a L I un u T tn fl m → OffC S S2 → f_X11_mildest_52_n G 87 (nI j) (nI (a 7)) (nI (a (38 + j))) Q (n + 1) (mdB a L j (8 - n)) (nI n - 1) S2 := by
    intro n
    induction n with
    | zero =>
      intro S2 hn hR2 o2
      rw [f_X11_mildest_52_n]
      exact ite_y (by decide) ⟨9, s1 8 S2 (by omega) hR2 o2⟩
    | succ n ih =>
      intro S2 hn hR2 o2
      rw [f_X11_mildest_52_n, nI_pred]
      refine ite_n (by simp (disch := omega) only [lit, nI_add, pk_mul, leI, ltI, eqI]; omega) ⟨9, s3 _ 8 n _ S2 (by omega) (by omega) (fun S3 hR3 o3 => ?_) hR2 o2⟩
      have w := ih S3 (by omega) hR3 o3
      rw [show 8 - n = (8 - (n + 1)) + 1 from by omega, mdB, show 7 - (8 - (n + 1)) = n from by omega] at w
      exact w
  exact ⟨9, s2 8 S (by omega) hR (OffC.refl S)⟩
theorem R_33 {v : Int32} (h : Inv G S) (k : ∀ S', Inv G S' → K G S') : f_X10_mildest G 0 v (fun r S1 => f_X11_mildest G 87 v (fun r2 S2 => r = r2 ∧ K G S2) S1) S := by
  obtain ⟨a, L, I, un, u, T, tn, fl, m, hV, hC, hR⟩ := h
  have h6 := hV.1.1
  have fin := k _ (inv hV hC.th hR.th)
  rcases ar_c (a 0) (by omega) v with ⟨j, hj, rfl⟩ | hv
  · refine ex_y hC.1.r0_0 (c_has_y hC.2.1 hV.1 hj (ite_n (by decide) (ex_y hC.1.r0_7 (ex_y hC.1.r0_0 (C_mild hC hV.1 hj (fun S1 hC1 o1 => nm_e ?_))))))
    have hR1 := (hR.offR o1).th
    have hw := hV.1.wa (i := j) (by omega)
    have hd := ddA_le (lo := frc a L) (a := a) (j := j) (s := a 7)
    refine m_person_y hR1.1.1 hR1.1.2.1 hV.1 hj (ite_n (by decide) (ex_y hR1.1.1.row ⟨inrow (n := 7) hR1.1.1 (by omega), nm_p (e' := nI (a 7)) (hR1.1.2.1.2.2.2.2.1 3 (by omega)) (ex_y hR1.1.1.row ?_)⟩))
    rw [show (62 : Int32) + nI j = nI (62 + j) from by rw [lit, nI_add], clI (by omega)]
    refine ⟨inrow hR1.1.1 (by omega), nm_p (hR1.1.2.1.2.2.2.2.2.2.2.2.1 j (by omega)) (m_doesOf (hR1.rfp hV.1) (by omega) hV.1.sc (fun S2 f2 => ?_))⟩
    have hC2 := (hC1.th.offC f2.offC)
    refine ite_c (fun e => ?_) (fun e => ?_)
    · rw [eqI (by omega) (by omega)] at e
      exact ⟨if_pos (show sut a L j (a 7) from e), k _ (inv hV hC2 (hR1.frR f2))⟩
    · rw [eqI (by omega) (by omega)] at e
      exact M_mild (hR1.frR f2) hV.1 hj (fun S3 hR3 o3 => ⟨if_neg (show ¬ sut a L j (a 7) from e), k _ (inv hV (hC2.offC o3) hR3)⟩)
  · refine ex_y hC.1.r0_0 (c_has_n hC.2.1 hV.1 hv (ite_y rfl ?_))
    exact nm_e (m_person_n hR.th.1.1 hR.th.1.2.1 hV.1 hv (ite_y rfl ⟨rfl, fin⟩))
end
