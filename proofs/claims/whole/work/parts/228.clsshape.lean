-- needs: 200 201 202 203 204 223 224 225
/-! The class: its shape. -/
def tabC : List (List (Option Nat)) := [[some 1, some 9, some 17, some 18, some 20, some 24, some 30, some 54, some 75, some 86], [none, some 2, some 3, some 4, some 5, none, some 6, some 7, none, some 8], [], [], [], [], [], [], [], [none, some 10, some 11, some 12, some 13, none, some 14, some 15, none, some 16], [], [], [], [], [], [], [], [], [some 19], [], [some 21, some 22], [], [some 23], [], [some 25, some 29], [some 26, some 27], [], [some 28], [], [], [some 31, some 39, some 41, some 45, some 51, some 53], [none, some 32, some 33, some 34, some 35, none, some 36, some 37, none, some 38], [], [], [], [], [], [], [], [some 40], [], [some 42, some 43], [], [some 44], [], [some 46, some 50], [some 47, some 48], [], [some 49], [], [], [some 52], [], [], [some 55, some 59, some 60, some 61, some 62, some 63, some 64, some 65, some 66, some 67, some 73, some 74], [some 56, some 57], [], [some 58], [], [], [], [], [], [], [], [], [], [some 68, some 69, some 70, some 71, some 72], [], [], [], [], [], [], [], [some 76, none, some 77, some 78, some 79, none, none, none, none, none, some 80], [], [], [], [], [some 81, some 82, some 83, some 84, some 85], [], [], [], [], [], []]
def lenC : List (Option Nat) := [none, none, some 24, some 6, some 6, some 4, some 8, some 8, some 6, none, some 24, some 6, some 6, some 4, some 8, some 8, some 6, some 2, none, some 512, none, some 9, none, some 32, none, none, some 9, none, some 32, some 24, none, none, some 24, some 6, some 6, some 4, some 8, some 8, some 6, none, some 512, none, some 9, none, some 32, none, none, some 9, none, some 32, some 24, none, some 32, some 22, none, none, some 9, none, some 32, some 256, some 256, some 256, some 256, some 256, some 256, some 36, some 64, some 5, some 32, some 32, some 32, some 32, some 32, some 5, some 21, none, some 400, some 401, some 401, some 401, none, some 12, some 12, some 12, some 48, some 800, some 7]
def ShC (G : Gm) (R : Nat → Nat → Option Nat) : Prop := (∀ i j x, (tabC.getD i []).getD j none = some x → R i j = some x) ∧ (∀ i x, lenC.getD i none = some x → G.2.1 i = x) ∧ 121 ≤ G.2.2
section
variable {G : Gm} {R : Nat → Nat → Option Nat}
theorem ShC.r0_0 (h : ShC G R) : R 0 0 = some 1 := h.1 0 0 1 rfl
theorem ShC.r0_1 (h : ShC G R) : R 0 1 = some 9 := h.1 0 1 9 rfl
theorem ShC.r0_2 (h : ShC G R) : R 0 2 = some 17 := h.1 0 2 17 rfl
theorem ShC.r0_3 (h : ShC G R) : R 0 3 = some 18 := h.1 0 3 18 rfl
theorem ShC.r0_4 (h : ShC G R) : R 0 4 = some 20 := h.1 0 4 20 rfl
theorem ShC.r0_5 (h : ShC G R) : R 0 5 = some 24 := h.1 0 5 24 rfl
theorem ShC.r0_6 (h : ShC G R) : R 0 6 = some 30 := h.1 0 6 30 rfl
theorem ShC.r0_7 (h : ShC G R) : R 0 7 = some 54 := h.1 0 7 54 rfl
theorem ShC.r0_8 (h : ShC G R) : R 0 8 = some 75 := h.1 0 8 75 rfl
theorem ShC.r0_9 (h : ShC G R) : R 0 9 = some 86 := h.1 0 9 86 rfl
theorem ShC.r18_0 (h : ShC G R) : R 18 0 = some 19 := h.1 18 0 19 rfl
theorem ShC.r24_0 (h : ShC G R) : R 24 0 = some 25 := h.1 24 0 25 rfl
theorem ShC.r24_1 (h : ShC G R) : R 24 1 = some 29 := h.1 24 1 29 rfl
theorem ShC.r30_0 (h : ShC G R) : R 30 0 = some 31 := h.1 30 0 31 rfl
theorem ShC.r30_1 (h : ShC G R) : R 30 1 = some 39 := h.1 30 1 39 rfl
theorem ShC.r30_2 (h : ShC G R) : R 30 2 = some 41 := h.1 30 2 41 rfl
theorem ShC.r30_3 (h : ShC G R) : R 30 3 = some 45 := h.1 30 3 45 rfl
theorem ShC.r30_4 (h : ShC G R) : R 30 4 = some 51 := h.1 30 4 51 rfl
theorem ShC.r30_5 (h : ShC G R) : R 30 5 = some 53 := h.1 30 5 53 rfl
theorem ShC.r39_0 (h : ShC G R) : R 39 0 = some 40 := h.1 39 0 40 rfl
theorem ShC.r45_0 (h : ShC G R) : R 45 0 = some 46 := h.1 45 0 46 rfl
theorem ShC.r45_1 (h : ShC G R) : R 45 1 = some 50 := h.1 45 1 50 rfl
theorem ShC.r51_0 (h : ShC G R) : R 51 0 = some 52 := h.1 51 0 52 rfl
theorem ShC.r54_0 (h : ShC G R) : R 54 0 = some 55 := h.1 54 0 55 rfl
theorem ShC.r54_1 (h : ShC G R) : R 54 1 = some 59 := h.1 54 1 59 rfl
theorem ShC.r54_2 (h : ShC G R) : R 54 2 = some 60 := h.1 54 2 60 rfl
theorem ShC.r54_3 (h : ShC G R) : R 54 3 = some 61 := h.1 54 3 61 rfl
theorem ShC.r54_4 (h : ShC G R) : R 54 4 = some 62 := h.1 54 4 62 rfl
theorem ShC.r54_5 (h : ShC G R) : R 54 5 = some 63 := h.1 54 5 63 rfl
theorem ShC.r54_6 (h : ShC G R) : R 54 6 = some 64 := h.1 54 6 64 rfl
theorem ShC.r54_7 (h : ShC G R) : R 54 7 = some 65 := h.1 54 7 65 rfl
theorem ShC.r54_8 (h : ShC G R) : R 54 8 = some 66 := h.1 54 8 66 rfl
theorem ShC.r54_9 (h : ShC G R) : R 54 9 = some 67 := h.1 54 9 67 rfl
theorem ShC.r54_10 (h : ShC G R) : R 54 10 = some 73 := h.1 54 10 73 rfl
theorem ShC.r54_11 (h : ShC G R) : R 54 11 = some 74 := h.1 54 11 74 rfl
theorem ShC.r67_0 (h : ShC G R) : R 67 0 = some 68 := h.1 67 0 68 rfl
theorem ShC.r67_1 (h : ShC G R) : R 67 1 = some 69 := h.1 67 1 69 rfl
theorem ShC.r67_2 (h : ShC G R) : R 67 2 = some 70 := h.1 67 2 70 rfl
theorem ShC.r67_3 (h : ShC G R) : R 67 3 = some 71 := h.1 67 3 71 rfl
theorem ShC.r67_4 (h : ShC G R) : R 67 4 = some 72 := h.1 67 4 72 rfl
theorem ShC.r75_0 (h : ShC G R) : R 75 0 = some 76 := h.1 75 0 76 rfl
theorem ShC.r75_2 (h : ShC G R) : R 75 2 = some 77 := h.1 75 2 77 rfl
theorem ShC.r75_3 (h : ShC G R) : R 75 3 = some 78 := h.1 75 3 78 rfl
theorem ShC.r75_4 (h : ShC G R) : R 75 4 = some 79 := h.1 75 4 79 rfl
theorem ShC.r75_10 (h : ShC G R) : R 75 10 = some 80 := h.1 75 10 80 rfl
theorem ShC.r80_0 (h : ShC G R) : R 80 0 = some 81 := h.1 80 0 81 rfl
theorem ShC.r80_1 (h : ShC G R) : R 80 1 = some 82 := h.1 80 1 82 rfl
theorem ShC.r80_2 (h : ShC G R) : R 80 2 = some 83 := h.1 80 2 83 rfl
theorem ShC.r80_3 (h : ShC G R) : R 80 3 = some 84 := h.1 80 3 84 rfl
theorem ShC.r80_4 (h : ShC G R) : R 80 4 = some 85 := h.1 80 4 85 rfl
theorem ShC.l2 (h : ShC G R) : G.2.1 2 = 24 := h.2.1 2 24 rfl
theorem ShC.l3 (h : ShC G R) : G.2.1 3 = 6 := h.2.1 3 6 rfl
theorem ShC.l4 (h : ShC G R) : G.2.1 4 = 6 := h.2.1 4 6 rfl
theorem ShC.l5 (h : ShC G R) : G.2.1 5 = 4 := h.2.1 5 4 rfl
theorem ShC.l6 (h : ShC G R) : G.2.1 6 = 8 := h.2.1 6 8 rfl
theorem ShC.l7 (h : ShC G R) : G.2.1 7 = 8 := h.2.1 7 8 rfl
theorem ShC.l8 (h : ShC G R) : G.2.1 8 = 6 := h.2.1 8 6 rfl
theorem ShC.l10 (h : ShC G R) : G.2.1 10 = 24 := h.2.1 10 24 rfl
theorem ShC.l11 (h : ShC G R) : G.2.1 11 = 6 := h.2.1 11 6 rfl
theorem ShC.l12 (h : ShC G R) : G.2.1 12 = 6 := h.2.1 12 6 rfl
theorem ShC.l13 (h : ShC G R) : G.2.1 13 = 4 := h.2.1 13 4 rfl
theorem ShC.l14 (h : ShC G R) : G.2.1 14 = 8 := h.2.1 14 8 rfl
theorem ShC.l15 (h : ShC G R) : G.2.1 15 = 8 := h.2.1 15 8 rfl
theorem ShC.l16 (h : ShC G R) : G.2.1 16 = 6 := h.2.1 16 6 rfl
theorem ShC.l17 (h : ShC G R) : G.2.1 17 = 2 := h.2.1 17 2 rfl
theorem ShC.l19 (h : ShC G R) : G.2.1 19 = 512 := h.2.1 19 512 rfl
theorem ShC.l21 (h : ShC G R) : G.2.1 21 = 9 := h.2.1 21 9 rfl
theorem ShC.l23 (h : ShC G R) : G.2.1 23 = 32 := h.2.1 23 32 rfl
theorem ShC.l26 (h : ShC G R) : G.2.1 26 = 9 := h.2.1 26 9 rfl
theorem ShC.l28 (h : ShC G R) : G.2.1 28 = 32 := h.2.1 28 32 rfl
theorem ShC.l29 (h : ShC G R) : G.2.1 29 = 24 := h.2.1 29 24 rfl
theorem ShC.l32 (h : ShC G R) : G.2.1 32 = 24 := h.2.1 32 24 rfl
theorem ShC.l33 (h : ShC G R) : G.2.1 33 = 6 := h.2.1 33 6 rfl
theorem ShC.l34 (h : ShC G R) : G.2.1 34 = 6 := h.2.1 34 6 rfl
theorem ShC.l35 (h : ShC G R) : G.2.1 35 = 4 := h.2.1 35 4 rfl
theorem ShC.l36 (h : ShC G R) : G.2.1 36 = 8 := h.2.1 36 8 rfl
theorem ShC.l37 (h : ShC G R) : G.2.1 37 = 8 := h.2.1 37 8 rfl
theorem ShC.l38 (h : ShC G R) : G.2.1 38 = 6 := h.2.1 38 6 rfl
theorem ShC.l40 (h : ShC G R) : G.2.1 40 = 512 := h.2.1 40 512 rfl
theorem ShC.l42 (h : ShC G R) : G.2.1 42 = 9 := h.2.1 42 9 rfl
theorem ShC.l44 (h : ShC G R) : G.2.1 44 = 32 := h.2.1 44 32 rfl
theorem ShC.l47 (h : ShC G R) : G.2.1 47 = 9 := h.2.1 47 9 rfl
theorem ShC.l49 (h : ShC G R) : G.2.1 49 = 32 := h.2.1 49 32 rfl
theorem ShC.l50 (h : ShC G R) : G.2.1 50 = 24 := h.2.1 50 24 rfl
theorem ShC.l52 (h : ShC G R) : G.2.1 52 = 32 := h.2.1 52 32 rfl
theorem ShC.l53 (h : ShC G R) : G.2.1 53 = 22 := h.2.1 53 22 rfl
theorem ShC.l56 (h : ShC G R) : G.2.1 56 = 9 := h.2.1 56 9 rfl
theorem ShC.l58 (h : ShC G R) : G.2.1 58 = 32 := h.2.1 58 32 rfl
theorem ShC.l59 (h : ShC G R) : G.2.1 59 = 256 := h.2.1 59 256 rfl
theorem ShC.l60 (h : ShC G R) : G.2.1 60 = 256 := h.2.1 60 256 rfl
theorem ShC.l61 (h : ShC G R) : G.2.1 61 = 256 := h.2.1 61 256 rfl
theorem ShC.l62 (h : ShC G R) : G.2.1 62 = 256 := h.2.1 62 256 rfl
theorem ShC.l63 (h : ShC G R) : G.2.1 63 = 256 := h.2.1 63 256 rfl
theorem ShC.l64 (h : ShC G R) : G.2.1 64 = 256 := h.2.1 64 256 rfl
theorem ShC.l65 (h : ShC G R) : G.2.1 65 = 36 := h.2.1 65 36 rfl
theorem ShC.l66 (h : ShC G R) : G.2.1 66 = 64 := h.2.1 66 64 rfl
theorem ShC.l67 (h : ShC G R) : G.2.1 67 = 5 := h.2.1 67 5 rfl
theorem ShC.l68 (h : ShC G R) : G.2.1 68 = 32 := h.2.1 68 32 rfl
theorem ShC.l69 (h : ShC G R) : G.2.1 69 = 32 := h.2.1 69 32 rfl
theorem ShC.l70 (h : ShC G R) : G.2.1 70 = 32 := h.2.1 70 32 rfl
theorem ShC.l71 (h : ShC G R) : G.2.1 71 = 32 := h.2.1 71 32 rfl
theorem ShC.l72 (h : ShC G R) : G.2.1 72 = 32 := h.2.1 72 32 rfl
theorem ShC.l73 (h : ShC G R) : G.2.1 73 = 5 := h.2.1 73 5 rfl
theorem ShC.l74 (h : ShC G R) : G.2.1 74 = 21 := h.2.1 74 21 rfl
theorem ShC.l76 (h : ShC G R) : G.2.1 76 = 400 := h.2.1 76 400 rfl
theorem ShC.l77 (h : ShC G R) : G.2.1 77 = 401 := h.2.1 77 401 rfl
theorem ShC.l78 (h : ShC G R) : G.2.1 78 = 401 := h.2.1 78 401 rfl
theorem ShC.l79 (h : ShC G R) : G.2.1 79 = 401 := h.2.1 79 401 rfl
theorem ShC.l81 (h : ShC G R) : G.2.1 81 = 12 := h.2.1 81 12 rfl
theorem ShC.l82 (h : ShC G R) : G.2.1 82 = 12 := h.2.1 82 12 rfl
theorem ShC.l83 (h : ShC G R) : G.2.1 83 = 12 := h.2.1 83 12 rfl
theorem ShC.l84 (h : ShC G R) : G.2.1 84 = 48 := h.2.1 84 48 rfl
theorem ShC.l85 (h : ShC G R) : G.2.1 85 = 800 := h.2.1 85 800 rfl
theorem ShC.l86 (h : ShC G R) : G.2.1 86 = 7 := h.2.1 86 7 rfl
theorem ShC.p1 (h : ShC G R) : PSh G R 1 := ⟨h.1 1 1 _ rfl, h.1 1 2 _ rfl, h.1 1 3 _ rfl, h.1 1 4 _ rfl, h.1 1 6 _ rfl, h.1 1 7 _ rfl, h.1 1 9 _ rfl, h.l2, h.l3, h.l4, h.l5, h.l6, h.l7, h.l8⟩
theorem ShC.p9 (h : ShC G R) : PSh G R 9 := ⟨h.1 9 1 _ rfl, h.1 9 2 _ rfl, h.1 9 3 _ rfl, h.1 9 4 _ rfl, h.1 9 6 _ rfl, h.1 9 7 _ rfl, h.1 9 9 _ rfl, h.l10, h.l11, h.l12, h.l13, h.l14, h.l15, h.l16⟩
theorem ShC.p31 (h : ShC G R) : PSh G R 31 := ⟨h.1 31 1 _ rfl, h.1 31 2 _ rfl, h.1 31 3 _ rfl, h.1 31 4 _ rfl, h.1 31 6 _ rfl, h.1 31 7 _ rfl, h.1 31 9 _ rfl, h.l32, h.l33, h.l34, h.l35, h.l36, h.l37, h.l38⟩
theorem ShC.j20 (h : ShC G R) : JSh G R 20 := ⟨h.1 20 0 _ rfl, h.1 20 1 _ rfl, h.1 22 0 _ rfl, h.l21, h.l23⟩
theorem ShC.j25 (h : ShC G R) : JSh G R 25 := ⟨h.1 25 0 _ rfl, h.1 25 1 _ rfl, h.1 27 0 _ rfl, h.l26, h.l28⟩
theorem ShC.j41 (h : ShC G R) : JSh G R 41 := ⟨h.1 41 0 _ rfl, h.1 41 1 _ rfl, h.1 43 0 _ rfl, h.l42, h.l44⟩
theorem ShC.j46 (h : ShC G R) : JSh G R 46 := ⟨h.1 46 0 _ rfl, h.1 46 1 _ rfl, h.1 48 0 _ rfl, h.l47, h.l49⟩
theorem ShC.j55 (h : ShC G R) : JSh G R 55 := ⟨h.1 55 0 _ rfl, h.1 55 1 _ rfl, h.1 57 0 _ rfl, h.l56, h.l58⟩
/-- the shape stands over what changes the rows of laws and of images -/
theorem ShC.fr {G' : Gm} {R' : Nat → Nat → Option Nat} (h : ShC G R) (hR : ∀ i j, i < 87 → i ≠ 8 → i ≠ 16 → i ≠ 17 → i ≠ 38 → R' i j = R i j) (hG : ∀ i, i < 87 → G'.2.1 i = G.2.1 i) (hn : G.2.2 ≤ G'.2.2) : ShC G' R' := by
  refine ⟨fun i j x hx => ?_, fun i x hx => ?_, by have := h.2.2; omega⟩
  · by_cases hi : i < 87
    · rw [hR i j hi ?_ ?_ ?_ ?_]
      · exact h.1 i j x hx
      all_goals (rintro rfl; revert hx; cases j <;> (intro hx; cases hx))
    · have : tabC.getD i [] = [] := by
        rw [List.getD_eq_getElem?_getD, List.getElem?_eq_none (by show 87 ≤ i; omega)]; rfl
      rw [this] at hx
      cases hx
  · by_cases hi : i < 87
    · rw [hG i hi]; exact h.2.1 i x hx
    · have : lenC.getD i none = none := by
        rw [List.getD_eq_getElem?_getD, List.getElem?_eq_none (by show 87 ≤ i; omega)]; rfl
      rw [this] at hx
      cases hx
end
