-- needs: 392
/-! Both objects are made: what they hold. -/
def rvN (x : Nat) : Nat → Nat
  | 0 => 0
  | c + 1 => rvN x c ||| (if x / 2 ^ c % 2 = 1 then 1 <<< (7 - c) else 0)
set_option maxRecDepth 100000 in
theorem rv_8 {x : Nat} (hx : x < 256) : rvN x 8 = bd 2 x := all_dec (P := fun x => rvN x 8 = bd 2 x) (by decide +kernel) hx
set_option maxRecDepth 100000 in
theorem rv_s {x c : Nat} (hx : x < 256) (hc : c < 8) : nI (rvN x c) ||| ((1 : Int32) <<< (((7 - nI c) : Int32) &&& 31)) = nI (rvN x c ||| (1 <<< (7 - c))) := t2_dec (P := fun x c => nI (rvN x c) ||| ((1 : Int32) <<< (((7 - nI c) : Int32) &&& 31)) = nI (rvN x c ||| (1 <<< (7 - c)))) (by decide +kernel) hx hc
set_option maxRecDepth 100000 in
theorem rv_0 {x c : Nat} (hx : x < 256) (hc : c < 8) : nI (rvN x c) ||| (0 : Int32) = nI (rvN x c ||| 0) := t2_dec (P := fun x c => nI (rvN x c) ||| (0 : Int32) = nI (rvN x c ||| 0)) (by decide +kernel) hx hc
set_option maxRecDepth 100000 in
theorem bd_6' {x : Nat} (hx : x < 256) : (255 : Int32) - nI x = nI (bd 6 x) := all_dec (P := fun x => (255 : Int32) - nI x = nI (bd 6 x)) (by decide +kernel) hx
section
variable {G : Gm} {S : St} {Q : Gm → St → Prop}
theorem ini_L (r : S.2.2 87 3 = some 89) (l : G.2.1 89 = 2048) (z : ∀ S', S'.2 = S.2 → (∀ i, i ≠ 89 → S'.1 i = S.1 i) → Made (S'.1 89) → Q G S') : f_X11_init_462 G 87 Q 0 S := by
  have st : ∀ (d x : Nat) (S1 : St), d + x = 256 → S1.2 = S.2 → (∀ i, i ≠ 89 → S1.1 i = S.1 i) → (∀ l, l < 8 → ∀ y, y < x → S1.1 89 (256 * l + y) = nI (bd l y)) → f_X11_init_462_n G 87 Q (d + 1) (nI x) S1 := by
    intro d
    induction d with
    | zero =>
      intro x S1 hx f1 f2 f3
      rw [f_X11_init_462_n]
      exact ite_y (by simp (disch := omega) only [lit, nI_add, pk_mul, leI, ltI, eqI]; omega) (z S1 f1 f2 (fun l hl y hy => f3 l hl y (by omega)))
    | succ d ih =>
      intro x S1 hx f1 f2 f3
      have hx6 : x < 256 := by omega
      have r1 : ∀ {S2 : St}, S2.2 = S.2 → S2.2.2 87 3 = some 89 := fun e => by rw [e]; exact r
      have iv : ∀ {j : Nat}, j < 2048 → vp_in (nI j) (G.2.1 89) := fun hj => by rw [l, in_iff (by omega)]; exact hj
      rw [f_X11_init_462_n, show (256 : Int32) + nI x = nI (256 + x) from by rw [show (256 : Int32) = nI 256 from rfl, nI_add], clI (by omega), clI (by omega), bd_1 hx6]
      refine ite_n (by simp (disch := omega) only [lit, nI_add, pk_mul, leI, ltI, eqI]; omega) (ex_y (r1 f1) ⟨iv (by omega), nm_e (ex_y (r1 f1) ⟨iv (by omega), nm_e ⟨9, ?_⟩⟩)⟩)
      have inner : ∀ (e c : Nat), e + c = 8 → f_X11_init_499_n G (f_X11_init_462_n G 87 Q (d + 1)) 87 (nI x) Q (e + 1) (nI (rvN x c)) (nI c) (uI (uI S1 89 x (nI x)) 89 (256 + x) (nI (bd 1 x))) := by
        intro e
        induction e with
        | zero =>
          intro c hc
          have hc : c = 8 := by omega
          subst hc
          have e5 : (512 : Int32) + nI x = nI (512 + x) := by rw [show (512 : Int32) = nI 512 from rfl, nI_add]
          have e7 : (768 : Int32) + nI x = nI (768 + x) := by rw [show (768 : Int32) = nI 768 from rfl, nI_add]
          have e10 : (1024 : Int32) + nI x = nI (1024 + x) := by rw [show (1024 : Int32) = nI 1024 from rfl, nI_add]
          have e12 : (1280 : Int32) + nI x = nI (1280 + x) := by rw [show (1280 : Int32) = nI 1280 from rfl, nI_add]
          have e15 : (1536 : Int32) + nI x = nI (1536 + x) := by rw [show (1536 : Int32) = nI 1536 from rfl, nI_add]
          have e17 : (1792 : Int32) + nI x = nI (1792 + x) := by rw [show (1792 : Int32) = nI 1792 from rfl, nI_add]
          rw [f_X11_init_499_n, e5, e7, e10, e12, e15, e17, clI (a := 512 + x) (by omega), clI (a := 768 + x) (by omega), clI (a := 1024 + x) (by omega), clI (a := 1280 + x) (by omega), clI (a := 1536 + x) (by omega), clI (a := 1792 + x) (by omega), bd_3 hx6, bd_4 hx6, bd_5 hx6, bd_6' hx6, bd_7 hx6, rv_8 hx6, nI_1 x]
          refine ite_y (by decide) (ex_y (r1 f1) ⟨iv (by omega), nm_e (ex_y (r1 f1) ⟨iv (by omega), nm_e (ex_y (r1 f1) ⟨iv (by omega), nm_e (ex_y (r1 f1) ⟨iv (by omega), nm_e (ex_y (r1 f1) ⟨iv (by omega), nm_e (ex_y (r1 f1) ⟨iv (by omega), nm_e ?_⟩)⟩)⟩)⟩)⟩)⟩)
          refine ih (x + 1) _ (by omega) f1 (fun i hi => ?_) (fun l hl y hy => ?_)
          · rw [uI_n _ _ _ _ hi, uI_n _ _ _ _ hi, uI_n _ _ _ _ hi, uI_n _ _ _ _ hi, uI_n _ _ _ _ hi, uI_n _ _ _ _ hi, uI_n _ _ _ _ hi, uI_n _ _ _ _ hi]; exact f2 i hi
          · by_cases e : y = x
            · subst e
              rcases lt8 hl with rfl | rfl | rfl | rfl | rfl | rfl | rfl | rfl
              · rw [uI_s, if_neg (by omega), uI_s, if_neg (by omega), uI_s, if_neg (by omega), uI_s, if_neg (by omega), uI_s, if_neg (by omega), uI_s, if_neg (by omega), uI_s, if_neg (by omega), uI_s, if_pos (by omega)]; rfl
              · rw [uI_s, if_neg (by omega), uI_s, if_neg (by omega), uI_s, if_neg (by omega), uI_s, if_neg (by omega), uI_s, if_neg (by omega), uI_s, if_neg (by omega), uI_s, if_pos (by omega)]
              · rw [uI_s, if_neg (by omega), uI_s, if_neg (by omega), uI_s, if_neg (by omega), uI_s, if_neg (by omega), uI_s, if_neg (by omega), uI_s, if_pos (by omega)]
              · rw [uI_s, if_neg (by omega), uI_s, if_neg (by omega), uI_s, if_neg (by omega), uI_s, if_neg (by omega), uI_s, if_pos (by omega)]
              · rw [uI_s, if_neg (by omega), uI_s, if_neg (by omega), uI_s, if_neg (by omega), uI_s, if_pos (by omega)]
              · rw [uI_s, if_neg (by omega), uI_s, if_neg (by omega), uI_s, if_pos (by omega)]
              · rw [uI_s, if_neg (by omega), uI_s, if_pos (by omega)]
              · rw [uI_s, if_pos (by omega)]
            · rw [uI_s, if_neg (by omega), uI_s, if_neg (by omega), uI_s, if_neg (by omega), uI_s, if_neg (by omega), uI_s, if_neg (by omega), uI_s, if_neg (by omega), uI_s, if_neg (by omega), uI_s, if_neg (by omega)]
              exact f3 l hl y (by omega)
        | succ e ihe =>
          intro c hc
          rw [f_X11_init_499_n, nI_1 c]
          have w := ihe (c + 1) (by omega)
          rw [rvN] at w
          refine ite_n (by simp (disch := omega) only [lit, nI_add, pk_mul, leI, ltI, eqI]; omega) ?_
          unfold f_X11_is
          rw [bit_e (by omega) hx6]
          have b2 : x / 2 ^ c % 2 < 2 := Nat.mod_lt _ (by omega)
          refine ite_c (fun h => ite_n (by decide) ?_) (fun h => ite_y rfl ?_)
          · rw [show (1 : Int32) = nI 1 from rfl, eqI (by omega) (by omega)] at h
            rw [if_pos h] at w
            exact nm_p (rv_s hx6 (by omega)) w
          · rw [show (1 : Int32) = nI 1 from rfl, eqI (by omega) (by omega)] at h
            rw [if_neg h] at w
            exact nm_p (rv_0 hx6 (by omega)) w
      exact inner 8 0 (by omega)
  exact ⟨257, st 256 0 S (by omega) rfl (fun _ _ => rfl) (fun l _ y hy => absurd hy (by omega))⟩
end
def fl0 : Nat → Int32 := fun k => if k = 2 ∨ k = 3 then -1 else 0
def L00 : Nat → Lw := fun _ => (0, fun _ => (0, fun _ => none, fun _ => none))
def u00 : Un := fun _ => (0, b0P)
section
set_option maxRecDepth 100000 in
theorem tabC_l {i : Nat} (hi : i < 87) : (tabC.getD i []).length ≤ 12 := all_dec (P := fun i => (tabC.getD i []).length ≤ 12) (by decide +kernel) hi
set_option maxRecDepth 100000 in
theorem ini_shC : ShC zG116 zS273.2.2 := by
  refine ⟨fun i j x hx => ?_, fun i x hx => ?_, by decide +kernel⟩
  · by_cases hi : i < 87
    · by_cases hj : j < 12
      · have t := t2_dec (P := fun i j => (tabC.getD i []).getD j none = none ∨ zS273.2.2 i j = (tabC.getD i []).getD j none) (by decide +kernel) hi hj
        rcases t with t | t
        · rw [t] at hx; cases hx
        · rw [t]; exact hx
      · have := tabC_l hi
        rw [List.getD_eq_getElem?_getD (l := tabC.getD i []), List.getElem?_eq_none (by omega)] at hx
        cases hx
    · have : tabC.getD i [] = [] := by
        rw [List.getD_eq_getElem?_getD, List.getElem?_eq_none (by show 87 ≤ i; omega)]; rfl
      rw [this] at hx
      cases hx
  · by_cases hi : i < 87
    · have t := all_dec (P := fun i => lenC.getD i none = none ∨ some (zG116.2.1 i) = lenC.getD i none) (by decide +kernel) hi
      rcases t with t | t
      · rw [t] at hx; cases hx
      · rw [hx] at t; exact Option.some.inj t
    · have : lenC.getD i none = none := by
        rw [List.getD_eq_getElem?_getD, List.getElem?_eq_none (by show 87 ≤ i; omega)]; rfl
      rw [this] at hx
      cases hx
set_option maxRecDepth 100000 in
theorem ini_par : ParC zS273 1 b0P := by
  refine ⟨by decide +kernel, by decide +kernel, by decide +kernel, by decide +kernel, fun i hi => ?_, fun i hi => ?_, fun i hi => ?_, fun i hi => ?_, fun i hi => ?_, fun i hi => ?_⟩
  · exact all_dec (P := fun i => zS273.1 (1 + 4) i = nI (b0P (4 + i))) (by decide +kernel) hi
  · exact all_dec (P := fun i => zS273.1 (1 + 1) i = nI (b0P (8 + i))) (by decide +kernel) hi
  · exact all_dec (P := fun i => zS273.1 (1 + 2) i = nI (b0P (32 + i))) (by decide +kernel) hi
  · exact all_dec (P := fun i => zS273.1 (1 + 3) i = nI (b0P (38 + i))) (by decide +kernel) hi
  · exact all_dec (P := fun i => zS273.1 (1 + 5) i = nI (b0P (44 + i))) (by decide +kernel) hi
  · exact all_dec (P := fun i => zS273.1 (1 + 6) i = nI (b0P (52 + i))) (by decide +kernel) hi
set_option maxRecDepth 100000 in
theorem ini_17 (k : Nat) : zS273.2.2 17 k = none := rfl
set_option maxRecDepth 100000 in
theorem ini_Cls : Cls zG116 zS273 b0P L00 (fun _ => none) 0 u00 (fun _ => 0) 0 fl0 (fun _ => 0) := by
  refine ⟨ini_shC, ini_par, ⟨fun k hk => absurd hk (Nat.not_lt_zero k), fun k hk => absurd hk (Nat.not_lt_zero k)⟩, ⟨by decide +kernel, fun i hi => ?_, fun i hi => ?_⟩, ⟨fun k hk => .inl ⟨rfl, ini_17 k⟩, fun q0 q1 h => ?_, fun k _ => ini_17 k⟩, ⟨by decide +kernel, 0, by omega, by decide +kernel, fun k hk => absurd hk (Nat.not_lt_zero k)⟩, ⟨by decide +kernel, fun i hi => absurd hi (Nat.not_lt_zero i)⟩, ⟨by decide +kernel, by decide +kernel, by decide +kernel, by decide +kernel, fun k hk => ?_⟩, fun n h1 h4 => .inl ?_⟩
  · exact all_dec (P := fun i => zS273.1 10 i = nI 0) (by decide +kernel) hi
  · exact all_dec (P := fun i => zS273.1 11 i = nI 0) (by decide +kernel) hi
  · rw [ini_17] at h; cases h
  · exact all_dec (P := fun k => zS273.1 86 k = fl0 (4 + k)) (by decide +kernel) hk
  · exact all_dec (N := 5) (P := fun n => zS273.1 73 n = -1) (by decide +kernel) (by omega)
set_option maxRecDepth 100000 in
theorem ini_shR : ShR zG116 zS273.2.2 := ⟨fun j hj => all_dec (P := fun j => zS273.2.2 87 j = tabR.getD j none) (by decide +kernel) hj, fun i hi => all_dec (P := fun i => zG116.2.1 (88 + i) = lenR.getD i 0) (by decide +kernel) hi⟩
set_option maxRecDepth 100000 in
theorem ini_row : RowR (zS273.1 90) b0P := by
  refine ⟨by decide +kernel, by decide +kernel, by decide +kernel, by decide +kernel, fun i hi => ?_, fun i hi => ?_, fun i hi => ?_, fun j hj k hk => ?_, fun i hi => ?_, fun i hi => ?_, fun i hi => ?_⟩
  · exact all_dec (P := fun i => zS273.1 90 (4 + i) = nI (b0P (4 + i))) (by decide +kernel) hi
  · exact all_dec (P := fun i => zS273.1 90 (8 + i) = nI (b0P (8 + i))) (by decide +kernel) hi
  · exact all_dec (P := fun j => zS273.1 90 (32 + 5 * j) = nI (gn (b0P (32 + j)))) (by decide +kernel) hi
  · exact t2_dec (P := fun j k => zS273.1 90 (33 + 5 * j + k) = nI (gk (b0P (32 + j)) k)) (by decide +kernel) hj hk
  · exact all_dec (P := fun j => zS273.1 90 (62 + j) = nI (b0P (38 + j))) (by decide +kernel) hi
  · exact all_dec (P := fun k => zS273.1 90 (68 + 2 * k) = nI (b0P (44 + k))) (by decide +kernel) hi
  · exact all_dec (P := fun k => zS273.1 90 (69 + 2 * k) = nI (b0P (52 + k))) (by decide +kernel) hi
set_option maxRecDepth 100000 in
theorem ini_Inv {S' : St} (f1 : S'.2 = zS273.2) (f2 : ∀ i, i ≠ 89 → S'.1 i = zS273.1 i) (hM : Made (S'.1 89)) : Inv zG116 S' := by
  refine ⟨b0P, L00, fun _ => none, 0, u00, fun _ => 0, 0, fl0, fun _ => 0, ⟨b0P_v, fun k b M h => (by cases h), by omega, fun k hk => absurd hk (Nat.not_lt_zero k), by omega, fun i hi => absurd hi (Nat.not_lt_zero i), Nat.zero_le _, fun i _ => Nat.zero_le _, fun i _ => vG_0⟩, ini_Cls.ag (fun i hi => f2 i (by unfold rlC at hi; omega)) (by rw [f1]), ?_⟩
  refine ⟨⟨by rw [f1]; exact ini_shR, by rw [f2 90 (by omega)]; exact ini_row, hM, fun k hk => absurd hk (Nat.not_lt_zero k), by rw [f2 87 (by omega)]; decide +kernel⟩, fun k hk => .inl ⟨rfl, ?_⟩, ⟨by rw [f2 87 (by omega)]; decide +kernel, fun k hk => absurd hk (Nat.not_lt_zero k)⟩, ⟨by rw [f2 87 (by omega)]; decide +kernel, fun i hi => absurd hi (Nat.not_lt_zero i)⟩, ⟨by rw [f2 87 (by omega)]; decide +kernel, by rw [f2 87 (by omega)]; decide +kernel, by rw [f2 87 (by omega)]; decide +kernel, by rw [f2 87 (by omega)]; decide +kernel, fun k hk => ?_⟩, .inl ⟨by rw [f2 87 (by omega)]; decide +kernel, rfl⟩, ⟨fun k hk => ?_, fun k hk => ?_, fun k hk => ?_, fun k hk => ?_⟩⟩
  · rw [f2 92 (by omega)]
    exact all_dec (P := fun k => zS273.1 92 k = 0) (by decide +kernel) hk
  · rw [f2 88 (by omega)]
    exact all_dec (P := fun k => zS273.1 88 k = fl0 (4 + k)) (by decide +kernel) hk
  · rw [f1]
    exact all_dec (P := fun k => zS273.2.1 103 k = wdW.getD k 0) (by decide +kernel) hk
  · rw [f1]
    exact all_dec (P := fun k => zS273.2.1 104 k = wdO.getD k 0) (by decide +kernel) hk
  · rw [f1]
    exact all_dec (P := fun k => zS273.2.1 105 k = wdH.getD k 0) (by decide +kernel) hk
  · rw [f1]
    exact all_dec (P := fun k => zS273.2.1 118 k = wdA.getD k 0) (by decide +kernel) hk
set_option maxRecDepth 100000 in
theorem ini_all {Q : Nat → Gm → St → Prop} (z : ∀ G S, Inv G S → Q 87 G S) : f_X10_init (gN zG0 9 0) 0 (fun G1 S1 => f_X11_init (gN G1 10 0) G1.2.2 (fun G2 S2 => Q G1.2.2 G2 S2) (sN S1 G1.2.2)) (sN zS0 0) := by
  refine ini_C (Q := fun G1 S1 => f_X11_init (gN G1 10 0) G1.2.2 (fun G2 S2 => Q G1.2.2 G2 S2) (sN S1 G1.2.2)) ?_
  have e : zG82.2.2 = 87 := by decide +kernel
  show f_X11_init (gN zG82 10 0) zG82.2.2 (fun G2 S2 => Q zG82.2.2 G2 S2) (sN zS176 zG82.2.2)
  rw [e]
  refine ini_R (Q := fun G2 S2 => Q 87 G2 S2) (ini_L (by decide +kernel) (by decide +kernel) (fun S' f1 f2 hM => z _ _ (ini_Inv f1 f2 hM)))
end
