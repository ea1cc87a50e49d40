-- needs: 200 201 202 203 204 220 221 223 224
/-! What the judge tells: lens, growth, deed, bar, glass. -/
theorem mx_i (x y : Int32) : (mx x y).toInt = max x.toInt y.toInt := by
  unfold mx
  split
  · rename_i h; rw [i32_lt] at h; omega
  · rename_i h; rw [i32_lt] at h; omega
theorem mn_i (x y : Int32) : (mn x y).toInt = min x.toInt y.toInt := by
  unfold mn
  split
  · rename_i h; rw [i32_lt] at h; omega
  · rename_i h; rw [i32_lt] at h; omega
def clN (hi : Nat) (v : Int64) : Nat := (max 0 (min (hi : Int) v.toInt)).toNat
def cl8 (v : Int64) : Int := max (-8) (min 8 v.toInt)
theorem clN_le (hi : Nat) (v : Int64) : clN hi v ≤ hi := by unfold clN; omega
theorem near {hi : Nat} {v : Int64} (hh : hi ≤ 100) (h1 : -1000000000 ≤ v.toInt) (h2 : v.toInt ≤ 1000000000) : mx 0 (mn (nI hi) v.toInt32) = nI (clN hi v) := by
  apply Int32.toInt_inj.mp
  rw [mx_i, mn_i, t32 h1 h2, nI_toInt (by omega), nI_toInt (by have := clN_le hi v; omega)]
  have : (0 : Int32).toInt = 0 := rfl
  unfold clN; omega
theorem near8 {v : Int64} (h1 : -1000000000 ≤ v.toInt) (h2 : v.toInt ≤ 1000000000) : (mx (-8) (mn 8 v.toInt32)).toInt = cl8 v := by
  rw [mx_i, mn_i, t32 h1 h2]
  have e1 : (-8 : Int32).toInt = -8 := rfl
  have e2 : (8 : Int32).toInt = 8 := rfl
  unfold cl8; omega
def lenA (lo : Option Lw) (a : Nat → Nat) (j k : Nat) : Nat := match telO lo 0 (eS a j k) with
  | some v => clN 7 v
  | none => if a (8 + (4 * j + k)) < 4 then 0 else k + 1
def grwA (lo : Option Lw) (a : Nat → Nat) (j k : Nat) : Int := match telO lo 1 (eS a j k) with
  | some v => cl8 v
  | none => 0
def ddA (lo : Option Lw) (a : Nat → Nat) (j s : Nat) : Nat := match telO lo 2 (eP a j s) with
  | some v => clN 3 v
  | none => litN s % 4
def barA (lo : Option Lw) (a : Nat → Nat) (j : Nat) : Bool := (telO lo 3 (eP a j (sgt a j))).isSome
theorem lenA_le {lo : Option Lw} {a : Nat → Nat} {j k : Nat} (hk : k < 4) : lenA lo a j k ≤ 7 := by
  unfold lenA
  split
  · exact clN_le 7 _
  · split <;> omega
theorem ddA_le {lo : Option Lw} {a : Nat → Nat} {j s : Nat} : ddA lo a j s ≤ 3 := by
  unfold ddA
  split
  · exact clN_le 3 _
  · omega
theorem grwA_le {lo : Option Lw} {a : Nat → Nat} {j k : Nat} : -8 ≤ grwA lo a j k ∧ grwA lo a j k ≤ 8 := by
  unfold grwA
  split
  · unfold cl8; omega
  · omega
/-- the sums of a law are narrow -/
def LwV (lw : Lw) : Prop := ∀ q, q < lw.1 → (lw.2 q).1 ≠ 3 → ∀ e w, smE e → (lw.2 q).2.2 e = some w → -1000000000 ≤ w.toInt ∧ w.toInt ≤ 1000000000
def LwVO (o : Option Lw) : Prop := ∀ lw, o = some lw → LwV lw
theorem LwV.tl {lw : Lw} (h : LwV lw) {v : Nat} {e : Nat → Int64} (he : smE e) : ∀ n, n ≤ lw.1 → ∀ w, tel lw v e n = some w → -1000000000 ≤ w.toInt ∧ w.toInt ≤ 1000000000 := by
  intro n
  induction n with
  | zero => intro _ w hw; cases hw
  | succ n ih =>
    intro hn w hw
    unfold tel at hw
    split at hw
    · rename_i hc
      split at hw
      · have := Option.some.inj hw
        subst this; decide
      · rename_i h3
        exact h n (by omega) (by rw [hc.1]; exact h3) e w he hw
    · exact ih (by omega) w hw
theorem LwVO.tlO {o : Option Lw} (h : LwVO o) {v : Nat} {e : Nat → Int64} (he : smE e) : ∀ w, telO o v e = some w → -1000000000 ≤ w.toInt ∧ w.toInt ≤ 1000000000 := by
  intro w hw
  cases o with
  | none => cases hw
  | some lw => exact (h lw rfl).tl he lw.1 (Nat.le_refl _) w hw
theorem TextC.lv {G : Gm} {M : Nat → Nat → Int32} {R : Nat → Nat → Option Nat} {t : Nat} {lw : Lw} (h : TextC G M R t lw) : LwV lw := by
  obtain ⟨r0, r3, r4, n12, m5, l1, l4, l5, k7, tb, c, hc, hq⟩ := h
  intro q hq' h3 e w he hw
  obtain ⟨_, m0, m2, m3, _, _, _, _, _, _, _, hs, _⟩ := hq q hq'
  rcases hs with h | ⟨h, _, sg⟩
  · exact absurd h h3
  · exact sg.val.1 e w (fun x hx => he x hx) hw
theorem OptT.lv {G : Gm} {S : St} {o : Option Nat} {lo : Option Lw} (h : OptT G S o lo) : LwVO lo := by
  rcases h with h | ⟨t, lw, h1, h2, h3, h4⟩
  · intro lw hl; rw [h.2] at hl; cases hl
  · intro lw' hl; rw [h2] at hl
    obtain rfl := Option.some.inj hl
    exact h4.lv
/-- what a judge leaves -/
def FrJ (q : Nat) (S S' : St) : Prop := Fr (fun i => i = q + 1 ∨ i = q + 3) S S'
section
variable {G : Gm} {S : St} {Q : Int32 → St → Prop} {q p : Nat} {a : Nat → Nat} {L : Nat → Lw} {lo : Option Lw} {o : Option Nat}
theorem c_lensFor {j k : Nat} (hJ : JSh G S.2.2 q) (hH : PSh G S.2.2 p) (hP : ParC S p a) (hV : Va a) (hq : p + 7 < q) (hq1 : q < 118) (hT : OptT G S o lo) (hj : j < a 0) (hk : k < 4) (h : ∀ S', FrJ q S S' → Q (nI (lenA lo a j k)) S') : f_X2_lensFor G q p o (nI j) (nI k) Q S := by
  have h6 := hV.1
  refine c_aboutSin hJ hH hP hV hq hj hk (fun S1 f1 he => ?_)
  have hs := eS_s hV (j := j) (k := k) (by omega) hk
  have hJ1 : JSh G S1.2.2 q := by rw [f1.1]; exact hJ
  have hT1 : OptT G S1 o lo := hT.fr (fun i hi => (f1.2 i (by omega)).1) f1.1
  refine c_toldO (v := 0) hJ1 (by omega) hT1 he hs (fun S2 l2 => ?_)
  have f2 : FrJ q S S2 := (f1.mono (fun i hi => .inl hi)).trans (l2.fr.mono (fun i hi => .inr (by omega)))
  have hr := hT.lv.tlO (v := 0) hs
  refine ite_c (fun d => ?_) (fun d => ?_)
  · rw [wv_min hr] at d
    have hP2 : ParC S2 p a := hP.fr f2 (by intro i _ _; omega)
    have hH2 : PSh G S2.2.2 p := by rw [f2.1]; exact hH
    refine c_sinOf hH2 hP2 hV hj hk ?_
    have h1 := hV.sin (i := 4 * j + k) (by omega)
    have hf := h S2 f2
    unfold lenA at hf
    rw [d] at hf
    refine ite_c (fun d4 => ?_) (fun d4 => ?_)
    · rw [lit, ltI (by omega) (by omega)] at d4
      simp only [if_pos d4] at hf
      exact hf
    · rw [lit, ltI (by omega) (by omega)] at d4
      simp only [if_neg d4] at hf
      rw [nI_1]; exact hf
  · rw [wv_min hr] at d
    obtain ⟨v, hv⟩ := Option.ne_none_iff_exists'.mp d
    obtain ⟨b1, b2⟩ := hr v hv
    have hf := h S2 f2
    unfold lenA at hf
    rw [hv] at hf
    rw [hv]
    show Q (mx 0 (mn 7 v.toInt32)) S2
    have := near (hi := 7) (by omega) b1 b2
    rw [show (7 : Int32) = nI 7 from rfl, this]
    exact hf
theorem c_growth {j k : Nat} (hJ : JSh G S.2.2 q) (hH : PSh G S.2.2 p) (hP : ParC S p a) (hV : Va a) (hL : LwC G S p a L) (hq : p + 7 < q) (hq1 : q < 118) (hj : j < a 0) (hk : k < 4) (h : ∀ S' r, r.toInt = grwA (frc a L) a j k → FrJ q S S' → Q r S') : f_X2_growth G q p (nI j) (nI k) Q S := by
  have h6 := hV.1
  refine c_aboutSin hJ hH hP hV hq hj hk (fun S1 f1 he => ?_)
  have hs := eS_s hV (j := j) (k := k) (by omega) hk
  have hJ1 : JSh G S1.2.2 q := by rw [f1.1]; exact hJ
  have hH1 : PSh G S1.2.2 p := by rw [f1.1]; exact hH
  have hL1 : LwC G S1 p a L := hL.fr (fun i hi => (f1.2 i (by omega)).1) f1.1
  refine c_lawInForce hH1 (hP.fr f1 (by intro i _ _; omega)) hV hL1 (fun o hT1 => ⟨hT1.ok, ?_⟩)
  refine c_toldO (v := 1) hJ1 (by omega) hT1 he hs (fun S2 l2 => ?_)
  have f2 : FrJ q S S2 := (f1.mono (fun i hi => .inl hi)).trans (l2.fr.mono (fun i hi => .inr (by omega)))
  have hr := hT1.lv.tlO (v := 1) hs
  refine ite_c (fun d => ?_) (fun d => ?_)
  · rw [wv_min hr] at d
    refine h S2 0 ?_ f2
    unfold grwA
    rw [d]; rfl
  · rw [wv_min hr] at d
    obtain ⟨v, hv⟩ := Option.ne_none_iff_exists'.mp d
    obtain ⟨b1, b2⟩ := hr v hv
    rw [hv]
    refine h S2 _ ?_ f2
    show (mx (-8) (mn 8 v.toInt32)).toInt = _
    rw [near8 b1 b2]
    unfold grwA
    rw [hv]
theorem c_deed {j s : Nat} (hJ : JSh G S.2.2 q) (hH : PSh G S.2.2 p) (hP : ParC S p a) (hV : Va a) (hL : LwC G S p a L) (hq : p + 7 < q) (hq1 : q < 118) (hj : j < a 0) (hs8 : s < 256) (h : ∀ S', FrJ q S S' → Q (nI (ddA (frc a L) a j s)) S') : f_X2_deed G q p (nI j) (nI s) Q S := by
  have h6 := hV.1
  refine c_aboutPerson hJ hH hP hV hq hj hs8 (fun S1 f1 he => ?_)
  have hs := eP_s hV (j := j) (s := s) (by omega) hs8
  have hJ1 : JSh G S1.2.2 q := by rw [f1.1]; exact hJ
  have hH1 : PSh G S1.2.2 p := by rw [f1.1]; exact hH
  have hL1 : LwC G S1 p a L := hL.fr (fun i hi => (f1.2 i (by omega)).1) f1.1
  refine c_lawInForce hH1 (hP.fr f1 (by intro i _ _; omega)) hV hL1 (fun o hT1 => ⟨hT1.ok, ?_⟩)
  refine c_toldO (v := 2) hJ1 (by omega) hT1 he hs (fun S2 l2 => ?_)
  have f2 : FrJ q S S2 := (f1.mono (fun i hi => .inl hi)).trans (l2.fr.mono (fun i hi => .inr (by omega)))
  have hr := hT1.lv.tlO (v := 2) hs
  have hf := h S2 f2
  unfold ddA at hf
  refine ite_c (fun d => ?_) (fun d => ?_)
  · rw [wv_min hr] at d
    rw [d] at hf
    have := litN_le s
    refine c_litCells hs8 ?_
    rw [show (4 : Int32) = nI 4 from rfl, rmI (by omega) (by omega) (by omega)]
    exact hf
  · rw [wv_min hr] at d
    obtain ⟨v, hv⟩ := Option.ne_none_iff_exists'.mp d
    obtain ⟨b1, b2⟩ := hr v hv
    rw [hv] at hf
    rw [hv]
    show Q (mx 0 (mn 3 v.toInt32)) S2
    have := near (hi := 3) (by omega) b1 b2
    rw [show (3 : Int32) = nI 3 from rfl, this]
    exact hf
theorem c_bars {j : Nat} (hJ : JSh G S.2.2 q) (hH : PSh G S.2.2 p) (hP : ParC S p a) (hV : Va a) (hL : LwC G S p a L) (hq : p + 7 < q) (hq1 : q < 118) (hj : j < a 0) (h : ∀ S', FrJ q S S' → Q (if barA (frc a L) a j = true then 1 else 0) S') : f_X2_bars G q p (nI j) Q S := by
  have h6 := hV.1
  refine c_sightOf hH hP hV hj ?_
  have hs8 := sgt_lt hV (j := j) (by omega)
  refine c_aboutPerson hJ hH hP hV hq hj hs8 (fun S1 f1 he => ?_)
  have hs := eP_s hV (j := j) (s := sgt a j) (by omega) hs8
  have hJ1 : JSh G S1.2.2 q := by rw [f1.1]; exact hJ
  have hH1 : PSh G S1.2.2 p := by rw [f1.1]; exact hH
  have hL1 : LwC G S1 p a L := hL.fr (fun i hi => (f1.2 i (by omega)).1) f1.1
  refine c_lawInForce hH1 (hP.fr f1 (by intro i _ _; omega)) hV hL1 (fun o hT1 => ⟨hT1.ok, ?_⟩)
  refine c_toldO (v := 3) hJ1 (by omega) hT1 he hs (fun S2 l2 => ?_)
  have f2 : FrJ q S S2 := (f1.mono (fun i hi => .inl hi)).trans (l2.fr.mono (fun i hi => .inr (by omega)))
  have hr := hT1.lv.tlO (v := 3) hs
  have hf := h S2 f2
  unfold barA at hf
  refine ite_c (fun d => ?_) (fun d => ?_)
  · rw [wv_min hr] at d
    rw [d] at hf
    exact hf
  · rw [wv_min hr] at d
    obtain ⟨v, hv⟩ := Option.ne_none_iff_exists'.mp d
    rw [hv] at hf
    exact hf
/-- lenses into a glass, behind what it has -/
def gAdd (g l : Nat) : Nat := if l = 0 then g else g * 10 + l + 1
def glsA (lo : Option Lw) (a : Nat → Nat) (j : Nat) : Nat := gAdd (gAdd (gAdd (gAdd 0 (lenA lo a j 0)) (lenA lo a j 1)) (lenA lo a j 2)) (lenA lo a j 3)
theorem c_glassBy {j : Nat} (hJ : JSh G S.2.2 q) (hH : PSh G S.2.2 p) (hP : ParC S p a) (hV : Va a) (hq : p + 7 < q) (hq1 : q < 118) (hT : OptT G S o lo) (hj : j < a 0) (h : ∀ S', FrJ q S S' → Q (nI (glsA lo a j)) S') : f_X2_glassBy G q p o (nI j) Q S := by
  have st : ∀ (n g k : Nat) (S1 : St), FrJ q S S1 → k < 4 → (∀ S2, FrJ q S S2 → f_X2_glassBy_6_n G q p o (nI j) Q n (nI (gAdd g (lenA lo a j k))) (nI (k + 1)) S2) → f_X2_glassBy_6_n G q p o (nI j) Q (n + 1) (nI g) (nI k) S1 := by
    intro n g k S1 f1 hk z
    rw [f_X2_glassBy_6_n]
    generalize f_X2_glassBy_6_n G q p o (nI j) Q n = W at z ⊢
    refine ite_n (by simp (disch := omega) only [lit, nI_add, pk_mul, leI, ltI, eqI]; omega) ?_
    have hJ1 : JSh G S1.2.2 q := by rw [f1.1]; exact hJ
    have hH1 : PSh G S1.2.2 p := by rw [f1.1]; exact hH
    have hT1 : OptT G S1 o lo := hT.fr (fun i hi => (f1.2 i (by omega)).1) f1.1
    refine c_lensFor hJ1 hH1 (hP.fr f1 (by intro i _ _; omega)) hV hq hq1 hT1 hj hk (fun S2 f2 => ?_)
    have z2 := z S2 (f1.trans f2)
    have l7 := lenA_le (lo := lo) (a := a) (j := j) hk
    unfold gAdd at z2
    refine ite_c (fun d => ?_) (fun d => ?_)
    · rw [lit, eqI (by omega) (by omega)] at d
      rw [if_pos d] at z2
      rw [nI_1]; exact z2
    · rw [lit, eqI (by omega) (by omega)] at d
      rw [if_neg d] at z2
      refine nm_p (by rw [lit, pk_mul, nI_add, nI_1]) ?_
      rw [nI_1]; exact z2
  refine ⟨5, st 4 0 0 S (Fr.refl S) (by omega) (fun S1 f1 => st 3 _ 1 S1 f1 (by omega) (fun S2 f2 => st 2 _ 2 S2 f2 (by omega) (fun S3 f3 => st 1 _ 3 S3 f3 (by omega) (fun S4 f4 => ?_))))⟩
  exact ite_y (by simp (disch := omega) only [lit, nI_add, pk_mul, leI, ltI, eqI]; omega) (h S4 f4)
end
