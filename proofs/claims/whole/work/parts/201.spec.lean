-- needs: 200
/-! What a lens makes, what a glass makes: in naturals. -/
def bd (l x : Nat) : Nat :=
  if l = 1 then (x ||| (x <<< 1)) &&& 255
  else if l = 2 then
    (let f := ((x <<< 4) &&& 240) ||| ((x >>> 4) &&& 15)
     let t := ((f <<< 2) &&& 204) ||| ((f >>> 2) &&& 51)
     ((t <<< 1) &&& 170) ||| ((t >>> 1) &&& 85))
  else if l = 3 then ((x <<< 1) ||| (x >>> 7)) &&& 255
  else if l = 4 then x &&& 126
  else if l = 5 then ((x <<< 4) ||| (x >>> 4)) &&& 255
  else if l = 6 then 255 - x
  else if l = 7 then x &&& (x >>> 1)
  else x
theorem all_dec {N : Nat} {P : Nat → Prop} [DecidablePred P] (h : (List.range N).all (fun i => decide (P i)) = true) {i : Nat} (hi : i < N) : P i := co_dec h hi
set_option maxRecDepth 100000 in
theorem bd_t : ((List.range 8).all fun l => (List.range 256).all fun x => decide (bd l x < 256)) = true := by decide +kernel
theorem bd_lt {l x : Nat} (hl : l < 8) (hx : x < 256) : bd l x < 256 := by
  have h := List.all_eq_true.mp (List.all_eq_true.mp bd_t l (List.mem_range.mpr hl)) x (List.mem_range.mpr hx)
  exact of_decide_eq_true h
set_option maxRecDepth 100000 in
theorem bd_1 {x : Nat} (hx : x < 256) : (nI x ||| (nI x <<< ((1 : Int32) &&& 31))) &&& 255 = nI (bd 1 x) := all_dec (P := fun x => (nI x ||| (nI x <<< ((1 : Int32) &&& 31))) &&& 255 = nI (bd 1 x)) (by decide +kernel) hx
set_option maxRecDepth 100000 in
theorem bd_2 {x : Nat} (hx : x < 256) : ((((((((nI x <<< ((4 : Int32) &&& 31)) &&& 240) ||| ((nI x >>> ((4 : Int32) &&& 31)) &&& 15)) <<< ((2 : Int32) &&& 31)) &&& 204) ||| (((((nI x <<< ((4 : Int32) &&& 31)) &&& 240) ||| ((nI x >>> ((4 : Int32) &&& 31)) &&& 15)) >>> ((2 : Int32) &&& 31)) &&& 51)) <<< ((1 : Int32) &&& 31)) &&& 170) ||| ((((((((nI x <<< ((4 : Int32) &&& 31)) &&& 240) ||| ((nI x >>> ((4 : Int32) &&& 31)) &&& 15)) <<< ((2 : Int32) &&& 31)) &&& 204) ||| (((((nI x <<< ((4 : Int32) &&& 31)) &&& 240) ||| ((nI x >>> ((4 : Int32) &&& 31)) &&& 15)) >>> ((2 : Int32) &&& 31)) &&& 51)) >>> ((1 : Int32) &&& 31)) &&& 85) = nI (bd 2 x) := all_dec (P := fun x => ((((((((nI x <<< ((4 : Int32) &&& 31)) &&& 240) ||| ((nI x >>> ((4 : Int32) &&& 31)) &&& 15)) <<< ((2 : Int32) &&& 31)) &&& 204) ||| (((((nI x <<< ((4 : Int32) &&& 31)) &&& 240) ||| ((nI x >>> ((4 : Int32) &&& 31)) &&& 15)) >>> ((2 : Int32) &&& 31)) &&& 51)) <<< ((1 : Int32) &&& 31)) &&& 170) ||| ((((((((nI x <<< ((4 : Int32) &&& 31)) &&& 240) ||| ((nI x >>> ((4 : Int32) &&& 31)) &&& 15)) <<< ((2 : Int32) &&& 31)) &&& 204) ||| (((((nI x <<< ((4 : Int32) &&& 31)) &&& 240) ||| ((nI x >>> ((4 : Int32) &&& 31)) &&& 15)) >>> ((2 : Int32) &&& 31)) &&& 51)) >>> ((1 : Int32) &&& 31)) &&& 85) = nI (bd 2 x)) (by decide +kernel) hx
set_option maxRecDepth 100000 in
theorem bd_3 {x : Nat} (hx : x < 256) : ((nI x <<< ((1 : Int32) &&& 31)) ||| (nI x >>> ((7 : Int32) &&& 31))) &&& 255 = nI (bd 3 x) := all_dec (P := fun x => ((nI x <<< ((1 : Int32) &&& 31)) ||| (nI x >>> ((7 : Int32) &&& 31))) &&& 255 = nI (bd 3 x)) (by decide +kernel) hx
set_option maxRecDepth 100000 in
theorem bd_4 {x : Nat} (hx : x < 256) : nI x &&& 126 = nI (bd 4 x) := all_dec (P := fun x => nI x &&& 126 = nI (bd 4 x)) (by decide +kernel) hx
set_option maxRecDepth 100000 in
theorem bd_5 {x : Nat} (hx : x < 256) : ((nI x <<< ((4 : Int32) &&& 31)) ||| (nI x >>> ((4 : Int32) &&& 31))) &&& 255 = nI (bd 5 x) := all_dec (P := fun x => ((nI x <<< ((4 : Int32) &&& 31)) ||| (nI x >>> ((4 : Int32) &&& 31))) &&& 255 = nI (bd 5 x)) (by decide +kernel) hx
set_option maxRecDepth 100000 in
theorem bd_6 {x : Nat} (hx : x < 256) : nI x ^^^ 255 = nI (bd 6 x) := all_dec (P := fun x => nI x ^^^ 255 = nI (bd 6 x)) (by decide +kernel) hx
set_option maxRecDepth 100000 in
theorem bd_7 {x : Nat} (hx : x < 256) : nI x &&& (nI x >>> ((1 : Int32) &&& 31)) = nI (bd 7 x) := all_dec (P := fun x => nI x &&& (nI x >>> ((1 : Int32) &&& 31)) = nI (bd 7 x)) (by decide +kernel) hx
theorem bd_0 (x : Nat) : bd 0 x = x := rfl
theorem lt8 {l : Nat} (h : l < 8) : l = 0 ∨ l = 1 ∨ l = 2 ∨ l = 3 ∨ l = 4 ∨ l = 5 ∨ l = 6 ∨ l = 7 := by omega
theorem c_bend {G : Gm} {Q : Int32 → St → Prop} {S : St} {l x : Nat} (hl : l < 8) (hx : x < 256) (h : Q (nI (bd l x)) S) : f_X3_bend G (nI l) (nI x) Q S := by
  unfold f_X3_bend
  rcases lt8 hl with rfl | rfl | rfl | rfl | rfl | rfl | rfl | rfl
  · rw [if_neg (by decide), if_neg (by decide), if_neg (by decide), if_neg (by decide), if_neg (by decide), if_neg (by decide), if_neg (by decide)]; exact h
  · rw [if_pos (by decide), bd_1 hx]; exact h
  · rw [if_neg (by decide), if_pos (by decide)]
    rintro _ rfl _ rfl
    rw [bd_2 hx]; exact h
  · rw [if_neg (by decide), if_neg (by decide), if_pos (by decide), bd_3 hx]; exact h
  · rw [if_neg (by decide), if_neg (by decide), if_neg (by decide), if_pos (by decide), bd_4 hx]; exact h
  · rw [if_neg (by decide), if_neg (by decide), if_neg (by decide), if_neg (by decide), if_pos (by decide), bd_5 hx]; exact h
  · rw [if_neg (by decide), if_neg (by decide), if_neg (by decide), if_neg (by decide), if_neg (by decide), if_pos (by decide), bd_6 hx]; exact h
  · rw [if_neg (by decide), if_neg (by decide), if_neg (by decide), if_neg (by decide), if_neg (by decide), if_neg (by decide), if_pos (by decide), bd_7 hx]; exact h
/-- a digit of a glass -/
def bD (d x : Nat) : Nat := if d = 0 then x else bd (d - 1) x
/-- a glass as a number of digits: through it -/
def thC (g x : Nat) : Nat := bD (g % 10) (bD (g / 10 % 10) (bD (g / 100 % 10) (bD (g / 1000 % 10) x)))
/-- that is a glass -/
def okG (g : Nat) : Prop := g < 10000 ∧ g % 10 ≤ 8 ∧ g / 10 % 10 ≤ 8 ∧ g / 100 % 10 ≤ 8 ∧ g / 1000 % 10 ≤ 8
theorem bD_lt {d x : Nat} (hd : d ≤ 8) (hx : x < 256) : bD d x < 256 := by
  unfold bD; split
  · exact hx
  · exact bd_lt (by omega) hx
theorem thC_lt {g x : Nat} (hg : okG g) (hx : x < 256) : thC g x < 256 := bD_lt hg.2.1 (bD_lt hg.2.2.1 (bD_lt hg.2.2.2.1 (bD_lt hg.2.2.2.2 hx)))
theorem c_bD {G : Gm} {Q : Int32 → St → Prop} {S : St} {d x : Nat} (hd : d ≤ 8) (hx : x < 256) (h : Q (nI (bD d x)) S) : if nI d ≤ 0 then Q (nI x) S else f_X3_bend G (nI d - 1) (nI x) Q S := by
  unfold bD at h
  by_cases h0 : d = 0
  · subst h0; rw [if_pos (by decide)]; exact h
  · rw [if_neg h0] at h
    rw [lit, if_neg (by rw [leI (by omega) (by omega)]; omega)]
    rw [lit, sbI (by omega)]
    exact c_bend (by omega) hx h
theorem c_through {G : Gm} {Q : Int32 → St → Prop} {S : St} {g x : Nat} (hg : okG g) (hx : x < 256) (h : Q (nI (thC g x)) S) : f_X3_through G (nI g) (nI x) Q S := by
  unfold f_X3_through f_X3_through_6
  obtain ⟨h0, h1, h2, h3, h4⟩ := hg
  have st : ∀ (n pl : Nat) (y : Nat) (T : St), 0 < pl → pl ≤ 1000 → y < 256 → g / pl % 10 ≤ 8 → f_X3_through_6_n G (nI g) Q n (nI (bD (g / pl % 10) y)) (nI (pl / 10)) T → f_X3_through_6_n G (nI g) Q (n + 1) (nI y) (nI pl) T := by
    intro n pl y T hp hp2 hy hd k
    unfold f_X3_through_6_n
    rw [lit, if_neg (by rw [leI (by omega) (by omega)]; omega)]
    refine ⟨by rw [eqI (by omega) (by omega)]; omega, ?_⟩
    have hq : g / pl < 10000 := Nat.lt_of_le_of_lt (Nat.div_le_self _ _) h0
    rw [dvI (by omega) hp (by omega), lit, rmI (by omega) (by omega) (by omega)]
    rintro _ rfl
    have e : ∀ z T', f_X3_through_32 G (f_X3_through_6_n G (nI g) Q n) (nI g) z (nI pl) Q T' = f_X3_through_6_n G (nI g) Q n z (nI (pl / 10)) T' := by
      intro z T'
      unfold f_X3_through_32
      rw [lit, dvI (by omega) (by omega) (by omega)]
      exact propext ⟨fun h => h _ rfl, fun h _ e => by rw [e]; exact h⟩
    have c := c_bD (G := G) (S := T) (Q := fun r5 S4 => f_X3_through_32 G (f_X3_through_6_n G (nI g) Q n) (nI g) r5 (nI pl) Q S4) hd hy (by show f_X3_through_32 _ _ _ _ _ _ _; rw [e]; exact k)
    exact c
  refine ⟨5, ?_⟩
  refine st 4 1000 x S (by omega) (by omega) hx h4 ?_
  have x1 := bD_lt h4 hx
  refine st 3 100 _ S (by omega) (by omega) x1 h3 ?_
  have x2 := bD_lt h3 x1
  refine st 2 10 _ S (by omega) (by omega) x2 h2 ?_
  have x3 := bD_lt h2 x2
  refine st 1 1 _ S (by omega) (by omega) x3 (by rw [Nat.div_one]; exact h1) ?_
  unfold f_X3_through_6_n
  rw [if_pos (by decide)]
  rw [Nat.div_one]
  exact h
