/-! The class copies a text. -/
theorem cpI_n {S : St} {a d i : Nat} {sp dp n : Int32} (h : i ≠ d) : (cpI S a sp d dp n).1 i = S.1 i := if_neg h
theorem cpI_s {S : St} {a d k n : Nat} (hn : n < 2147483648) : (cpI S a 0 d 0 (nI n)).1 d k = if k < n then S.1 a k else S.1 d k := by
  show (if d = d then va_cpy (S.1 a) (S.1 d) _ _ _ else S.1 d) k = _
  rw [if_pos rfl, clI hn]
  show (if (0 : Int32).toNatClampNeg ≤ k ∧ k < (0 : Int32).toNatClampNeg + n then S.1 a ((0 : Int32).toNatClampNeg + (k - (0 : Int32).toNatClampNeg)) else S.1 d k) = _
  have e : (0 : Int32).toNatClampNeg = 0 := rfl
  rw [e, Nat.zero_add, Nat.zero_add, Nat.sub_zero]
  by_cases h : k < n
  · rw [if_pos ⟨Nat.zero_le _, h⟩, if_pos h]
  · rw [if_neg (fun h' => h h'.2), if_neg h]
theorem cp_ok {n a b : Nat} (hn : n < 2147483648) (h1 : n ≤ a) (h2 : n ≤ b) : cpOk 0 0 (nI n) a b := by
  refine ⟨by decide, by decide, nI_nn hn, ?_, ?_⟩
  · rw [clI hn]; show 0 + n ≤ a; omega
  · rw [clI hn]; show 0 + n ≤ b; omega
theorem near_n {v hi : Nat} (h : v ≤ hi) (hh : hi < 2147483648) : mx 0 (mn (nI hi) (nI v)) = nI v := by
  rw [mn_n hh (by omega), Nat.min_eq_right h]
  unfold mx
  by_cases h0 : v = 0
  · subst h0; decide
  · rw [if_pos (show (0 : Int32) < nI v from by rw [lit, ltI (by omega) (by omega)]; omega)]
theorem uR_s {S : St} {i j k : Nat} {v : Option Nat} : (uR S i j v).2.2 i k = if k = j then v else S.2.2 i k := by
  show (if i = i ∧ k = j then v else S.2.2 i k) = _
  simp
theorem uR_n {S : St} {i j a : Nat} {v : Option Nat} (h : a ≠ i) : (uR S i j v).2.2 a = S.2.2 a := by
  funext k
  show (if a = i ∧ k = j then v else S.2.2 a k) = _
  rw [if_neg (fun h' => h h'.1)]
theorem sN_1 {S : St} {i a : Nat} (h : a ≠ i) : (sN S i).1 a = S.1 a := va_up_ne _ _ h
theorem sN_21 {S : St} {i a : Nat} (h : a ≠ i) : (sN S i).2.1 a = S.2.1 a := va_up_ne _ _ h
theorem sN_22 {S : St} {i a : Nat} (h : a ≠ i) : (sN S i).2.2 a = S.2.2 a := va_up_ne _ _ h
theorem sN_1s {S : St} {i : Nat} : (sN S i).1 i = fun _ => 0 := va_up_self _ _ _
theorem sN_22s {S : St} {i : Nat} : (sN S i).2.2 i = fun _ => none := va_up_self _ _ _
theorem gN_1 {G : Gm} {k n a : Nat} (h : a ≠ G.2.2) : (gN G k n).1 a = G.1 a := va_up_ne _ _ h
theorem gN_1s {G : Gm} {k n : Nat} : (gN G k n).1 G.2.2 = k := va_up_self _ _ _
theorem gN_2 {G : Gm} {k n a : Nat} (h : a ≠ G.2.2) : (gN G k n).2.1 a = G.2.1 a := va_up_ne _ _ h
theorem gN_2s {G : Gm} {k n : Nat} : (gN G k n).2.1 G.2.2 = n := va_up_self _ _ _
theorem gN_3 {G : Gm} {k n : Nat} : (gN G k n).2.2 = G.2.2 + 1 := rfl
theorem c_txInit {G : Gm} {S : St} {v0 q M : Nat} {K : Gm → St → Prop} (hq : q ≤ 12) (hM : M ≤ 800) (z : K (gN (gN (gN (gN (gN G 11 q) 11 q) 11 q) 11 (4 * q)) 11 M) (uR (sN (uR (sN (uR (sN (uR (sN (uR (sN S G.2.2) v0 0 (some G.2.2)) (G.2.2 + 1)) v0 1 (some (G.2.2 + 1))) (G.2.2 + 1 + 1)) v0 2 (some (G.2.2 + 1 + 1))) (G.2.2 + 1 + 1 + 1)) v0 3 (some (G.2.2 + 1 + 1 + 1))) (G.2.2 + 1 + 1 + 1 + 1)) v0 4 (some (G.2.2 + 1 + 1 + 1 + 1)))) : f_X8_init G v0 (nI q) (nI M) K S := by
  show f_X10_nearest _ _ _ _ _ _
  unfold f_X10_nearest
  rw [show (12 : Int32) = nI 12 from rfl, near_n hq (by omega)]
  refine ⟨nI_nn (by omega), by rw [clI (by omega)]; exact hq, ?_⟩
  rw [clI (by omega)]
  refine nm_e (nm_e (nm_e (nm_e ⟨nI_nn (by omega), hq, nm_e (nm_e (nm_e (nm_e ⟨nI_nn (by omega), hq, nm_e (nm_e (nm_e (nm_e ?_)))⟩)))⟩)))
  rw [show (4 : Int32) = nI 4 from rfl, pk_mul, clI (by omega)]
  refine ⟨nI_nn (by omega), by omega, nm_e (nm_e (nm_e (nm_e ?_)))⟩
  rw [show (800 : Int32) = nI 800 from rfl, near_n hM (by omega)]
  refine ⟨nI_nn (by omega), by rw [clI (by omega)]; exact hM, ?_⟩
  rw [clI (by omega)]
  refine nm_e (nm_e (nm_e (nm_e ?_)))
  rw [Nat.mul_comm q 4]
  exact z
/-- what five rows hung up are -/
def Hung (G : Gm) (S : St) (v0 q M : Nat) (G' : Gm) (S' : St) : Prop := G'.2.2 = G.2.2 + 5 ∧ (∀ i, i < G.2.2 → G'.1 i = G.1 i ∧ G'.2.1 i = G.2.1 i) ∧ G'.2.1 G.2.2 = q ∧ G'.2.1 (G.2.2 + 1) = q ∧ G'.2.1 (G.2.2 + 2) = q ∧ G'.2.1 (G.2.2 + 3) = 4 * q ∧ G'.2.1 (G.2.2 + 4) = M ∧ (∀ i, i < G.2.2 → S'.1 i = S.1 i ∧ S'.2.1 i = S.2.1 i) ∧ (∀ i, i < G.2.2 → i ≠ v0 → S'.2.2 i = S.2.2 i) ∧ (∀ j, j < 5 → S'.2.2 v0 j = some (G.2.2 + j))
theorem c_txHung {G : Gm} {S : St} {v0 q M : Nat} {K : Gm → St → Prop} (hv : v0 < G.2.2) (hq : q ≤ 12) (hM : M ≤ 800) (z : ∀ G' S', Hung G S v0 q M G' S' → K G' S') : f_X8_init G v0 (nI q) (nI M) K S := by
  refine c_txInit hq hM (z _ _ ?_)
  have u1 : ∀ (S : St) i j v, (uR S i j v).1 = S.1 := fun _ _ _ _ => rfl
  have u2 : ∀ (S : St) i j v, (uR S i j v).2.1 = S.2.1 := fun _ _ _ _ => rfl
  refine ⟨rfl, fun i hi => ⟨?_, ?_⟩, ?_, ?_, ?_, ?_, ?_, fun i hi => ⟨?_, ?_⟩, fun i hi hne => ?_, fun j hj => ?_⟩
  · rw [gN_1 (by show i ≠ G.2.2 + 1 + 1 + 1 + 1; omega), gN_1 (by show i ≠ G.2.2 + 1 + 1 + 1; omega), gN_1 (by show i ≠ G.2.2 + 1 + 1; omega), gN_1 (by show i ≠ G.2.2 + 1; omega), gN_1 (by omega)]
  · rw [gN_2 (by show i ≠ G.2.2 + 1 + 1 + 1 + 1; omega), gN_2 (by show i ≠ G.2.2 + 1 + 1 + 1; omega), gN_2 (by show i ≠ G.2.2 + 1 + 1; omega), gN_2 (by show i ≠ G.2.2 + 1; omega), gN_2 (by omega)]
  · rw [gN_2 (by show G.2.2 ≠ G.2.2 + 1 + 1 + 1 + 1; omega), gN_2 (by show G.2.2 ≠ G.2.2 + 1 + 1 + 1; omega), gN_2 (by show G.2.2 ≠ G.2.2 + 1 + 1; omega), gN_2 (by show G.2.2 ≠ G.2.2 + 1; omega), gN_2s]
  · rw [gN_2 (by show G.2.2 + 1 ≠ G.2.2 + 1 + 1 + 1 + 1; omega), gN_2 (by show G.2.2 + 1 ≠ G.2.2 + 1 + 1 + 1; omega), gN_2 (by show G.2.2 + 1 ≠ G.2.2 + 1 + 1; omega)]
    exact gN_2s (G := gN G 11 q)
  · rw [gN_2 (by show G.2.2 + 2 ≠ G.2.2 + 1 + 1 + 1 + 1; omega), gN_2 (by show G.2.2 + 2 ≠ G.2.2 + 1 + 1 + 1; omega)]
    exact gN_2s (G := gN (gN G 11 q) 11 q)
  · rw [gN_2 (by show G.2.2 + 3 ≠ G.2.2 + 1 + 1 + 1 + 1; omega)]
    exact gN_2s (G := gN (gN (gN G 11 q) 11 q) 11 q)
  · exact gN_2s (G := gN (gN (gN (gN G 11 q) 11 q) 11 q) 11 (4 * q))
  · rw [u1, sN_1 (by omega), u1, sN_1 (by omega), u1, sN_1 (by omega), u1, sN_1 (by omega), u1, sN_1 (by omega)]
  · rw [u2, sN_21 (by omega), u2, sN_21 (by omega), u2, sN_21 (by omega), u2, sN_21 (by omega), u2, sN_21 (by omega)]
  · rw [uR_n hne, sN_22 (by omega), uR_n hne, sN_22 (by omega), uR_n hne, sN_22 (by omega), uR_n hne, sN_22 (by omega), uR_n hne, sN_22 (by omega)]
  · have : j = 0 ∨ j = 1 ∨ j = 2 ∨ j = 3 ∨ j = 4 := by omega
    rcases this with rfl | rfl | rfl | rfl | rfl
    · rw [uR_s, if_neg (by omega), sN_22 (by omega), uR_s, if_neg (by omega), sN_22 (by omega), uR_s, if_neg (by omega), sN_22 (by omega), uR_s, if_neg (by omega), sN_22 (by omega), uR_s, if_pos rfl]; rfl
    · rw [uR_s, if_neg (by omega), sN_22 (by omega), uR_s, if_neg (by omega), sN_22 (by omega), uR_s, if_neg (by omega), sN_22 (by omega), uR_s, if_pos rfl]
    · rw [uR_s, if_neg (by omega), sN_22 (by omega), uR_s, if_neg (by omega), sN_22 (by omega), uR_s, if_pos rfl]
    · rw [uR_s, if_neg (by omega), sN_22 (by omega), uR_s, if_pos rfl]
    · rw [uR_s, if_pos rfl]
/-- the copy lies at the end -/
def Copied (G : Gm) (S : St) (q M : Nat) (G' : Gm) (S' : St) : Prop := G'.2.2 = G.2.2 + 6 ∧ (∀ i, i < G.2.2 → G'.1 i = G.1 i ∧ G'.2.1 i = G.2.1 i) ∧ G'.1 G.2.2 = 7 ∧ G'.2.1 (G.2.2 + 1) = q ∧ G'.2.1 (G.2.2 + 4) = 4 * q ∧ G'.2.1 (G.2.2 + 5) = M ∧ (∀ i, i < G.2.2 → S'.1 i = S.1 i ∧ S'.2.1 i = S.2.1 i ∧ S'.2.2 i = S.2.2 i) ∧ S'.2.2 G.2.2 0 = some (G.2.2 + 1) ∧ S'.2.2 G.2.2 3 = some (G.2.2 + 4) ∧ S'.2.2 G.2.2 4 = some (G.2.2 + 5) ∧ S'.1 G.2.2 5 = nI q ∧ (∀ k, k < q → S'.1 (G.2.2 + 1) k = S.1 81 k) ∧ (∀ k, k < 4 * q → S'.1 (G.2.2 + 4) k = S.1 84 k) ∧ (∀ k, k < M → S'.1 (G.2.2 + 5) k = S.1 85 k)
theorem c_copy {G : Gm} {S : St} {q M : Nat} {K : Option Nat → Gm → St → Prop} (hS : ShC G S.2.2) (hq : q ≤ 12) (hM : M ≤ 800) (h5 : S.1 80 5 = nI q) (h6 : S.1 80 6 = nI M) (z : ∀ G' S', Copied G S q M G' S' → K (some G.2.2) G' S') : f_X8_copy G 80 K S := by
  have g121 := hS.2.2
  refine nm_e (nm_e (nm_e ?_))
  have r80 : (sN S G.2.2).1 80 = S.1 80 := sN_1 (by omega)
  rw [r80, h5, h6]
  refine c_txHung (G := gN G 7 0) (by show G.2.2 < G.2.2 + 1; omega) hq hM (fun G1 S1 hH => nm_e (nm_e ?_))
  obtain ⟨a1, a2, a3, a4, a5, a6, a7, a8, a9, a10⟩ := hH
  have a1 : G1.2.2 = G.2.2 + 1 + 5 := a1
  have a3 : G1.2.1 (G.2.2 + 1) = q := a3
  have a4 : G1.2.1 (G.2.2 + 1 + 1) = q := a4
  have a5 : G1.2.1 (G.2.2 + 1 + 2) = q := a5
  have a6 : G1.2.1 (G.2.2 + 1 + 3) = 4 * q := a6
  have a7 : G1.2.1 (G.2.2 + 1 + 4) = M := a7
  have a10 : ∀ j, j < 5 → S1.2.2 G.2.2 j = some (G.2.2 + 1 + j) := a10
  have b1 : ∀ i, i < G.2.2 → S1.1 i = S.1 i ∧ S1.2.1 i = S.2.1 i ∧ S1.2.2 i = S.2.2 i := by
    intro i hi
    have x := a8 i (by show i < G.2.2 + 1; omega)
    exact ⟨x.1.trans (sN_1 (by omega)), x.2.trans (sN_21 (by omega)), (a9 i (by show i < G.2.2 + 1; omega) (by omega)).trans (sN_22 (by omega))⟩
  have c5 : S1.1 80 5 = nI q := by rw [(b1 80 (by omega)).1]; exact h5
  have c6 : S1.1 80 6 = nI M := by rw [(b1 80 (by omega)).1]; exact h6
  have gl : ∀ i, i < G.2.2 → G1.1 i = G.1 i ∧ G1.2.1 i = G.2.1 i := fun i hi => by
    have x := a2 i (by show i < G.2.2 + 1; omega)
    exact ⟨x.1.trans (gN_1 (by omega)), x.2.trans (gN_2 (by omega))⟩
  have r1 : S1.2.2 80 = S.2.2 80 := (b1 80 (by omega)).2.2
  have e6 : (uI S1 G.2.2 5 (S1.1 80 5)).1 80 6 = nI M := by rw [uI_n _ _ _ _ (by omega)]; exact c6
  rw [e6, c5]
  -- the state with its two numbers
  have s80 : ∀ i, i ≠ G.2.2 → (uI (uI S1 G.2.2 5 (nI q)) G.2.2 6 (nI M)).1 i = S1.1 i := fun i hi => by rw [uI_n _ _ _ _ hi, uI_n _ _ _ _ hi]
  have s5 : (uI (uI S1 G.2.2 5 (nI q)) G.2.2 6 (nI M)).1 G.2.2 5 = nI q := by rw [uI_s, if_neg (by omega), uI_s, if_pos rfl]
  have sR : (uI (uI S1 G.2.2 5 (nI q)) G.2.2 6 (nI M)).2 = S1.2 := rfl
  generalize uI (uI S1 G.2.2 5 (nI q)) G.2.2 6 (nI M) = S2 at s80 s5 sR ⊢
  have q5 : ∀ (S' : St), S'.1 80 = S1.1 80 → S'.1 80 5 = nI q := fun S' h => by rw [h]; exact c5
  have R2 : S2.2.2 = S1.2.2 := by rw [sR]
  have l81 := (gl 81 (by omega)).2.trans hS.l81
  have l82 := (gl 82 (by omega)).2.trans hS.l82
  have l83 := (gl 83 (by omega)).2.trans hS.l83
  have l84 := (gl 84 (by omega)).2.trans hS.l84
  have l85 := (gl 85 (by omega)).2.trans hS.l85
  refine ex_y (i := 81) (by rw [R2, r1]; exact hS.r80_0) (ex_y (by rw [R2]; exact a10 0 (by omega)) ?_)
  rw [q5 S2 (s80 80 (by omega)), l81, show G.2.2 + 1 + 0 = G.2.2 + 1 from rfl, a3]
  refine ⟨cp_ok (by omega) hq (Nat.le_refl _), nm_e (ex_y (i := 82) (by show S2.2.2 80 1 = _; rw [R2, r1]; exact hS.r80_1) (ex_y (by show S2.2.2 G.2.2 1 = _; rw [R2]; exact a10 1 (by omega)) ?_))⟩
  rw [cpI_n (show (80 : Nat) ≠ G.2.2 + 1 from by omega), q5 S2 (s80 80 (by omega)), l82, a4]
  refine ⟨cp_ok (by omega) hq (Nat.le_refl _), nm_e (ex_y (i := 83) (by show S2.2.2 80 2 = _; rw [R2, r1]; exact hS.r80_2) (ex_y (by show S2.2.2 G.2.2 2 = _; rw [R2]; exact a10 2 (by omega)) ?_))⟩
  rw [cpI_n (show (80 : Nat) ≠ G.2.2 + 1 + 1 from by omega), cpI_n (show (80 : Nat) ≠ G.2.2 + 1 from by omega), q5 S2 (s80 80 (by omega)), l83, a5]
  refine ⟨cp_ok (by omega) hq (Nat.le_refl _), nm_e (ex_y (i := 84) (by show S2.2.2 80 3 = _; rw [R2, r1]; exact hS.r80_3) (ex_y (by show S2.2.2 G.2.2 3 = _; rw [R2]; exact a10 3 (by omega)) ?_))⟩
  rw [cpI_n (show (80 : Nat) ≠ G.2.2 + 1 + 2 from by omega), cpI_n (show (80 : Nat) ≠ G.2.2 + 1 + 1 from by omega), cpI_n (show (80 : Nat) ≠ G.2.2 + 1 from by omega), q5 S2 (s80 80 (by omega)), show (4 : Int32) = nI 4 from rfl, pk_mul, l84, a6]
  refine ⟨cp_ok (by omega) (by omega) (by omega), nm_e (ex_y (i := 85) (by show S2.2.2 80 4 = _; rw [R2, r1]; exact hS.r80_4) (ex_y (by show S2.2.2 G.2.2 4 = _; rw [R2]; exact a10 4 (by omega)) ?_))⟩
  rw [cpI_n (show (80 : Nat) ≠ G.2.2 + 1 + 3 from by omega), cpI_n (show (80 : Nat) ≠ G.2.2 + 1 + 2 from by omega), cpI_n (show (80 : Nat) ≠ G.2.2 + 1 + 1 from by omega), cpI_n (show (80 : Nat) ≠ G.2.2 + 1 from by omega), s80 80 (by omega), c6, l85, a7]
  refine ⟨cp_ok (by omega) hM (Nat.le_refl _), nm_e (z _ _ ?_)⟩
  refine ⟨by rw [a1], gl, ?_, a3, a6, a7, fun i hi => ⟨?_, ?_, ?_⟩, ?_, ?_, ?_, ?_, fun k hk => ?_, fun k hk => ?_, fun k hk => ?_⟩
  · rw [(a2 G.2.2 (by show G.2.2 < G.2.2 + 1; omega)).1]; exact gN_1s
  · rw [cpI_n (by omega), cpI_n (by omega), cpI_n (by omega), cpI_n (by omega), cpI_n (by omega), s80 i (by omega)]; exact (b1 i hi).1
  · show S2.2.1 i = _
    rw [sR]; exact (b1 i hi).2.1
  · show S2.2.2 i = _
    rw [sR]; exact (b1 i hi).2.2
  · show S2.2.2 G.2.2 0 = _
    rw [R2]; exact a10 0 (by omega)
  · show S2.2.2 G.2.2 3 = _
    rw [R2]; exact a10 3 (by omega)
  · show S2.2.2 G.2.2 4 = _
    rw [R2]; exact a10 4 (by omega)
  · rw [cpI_n (by omega), cpI_n (by omega), cpI_n (by omega), cpI_n (by omega), cpI_n (by omega)]; exact s5
  · rw [cpI_n (by omega), cpI_n (by omega), cpI_n (by omega), cpI_n (by omega), cpI_s (by omega), if_pos hk, s80 81 (by omega), (b1 81 (by omega)).1]
  · rw [cpI_n (by omega)]
    rw [show G.2.2 + 4 = G.2.2 + 1 + 3 from rfl, cpI_s (by omega), if_pos (by omega), cpI_n (by omega), cpI_n (by omega), cpI_n (by omega), s80 84 (by omega), (b1 84 (by omega)).1]
  · rw [show G.2.2 + 5 = G.2.2 + 1 + 4 from rfl, cpI_s (by omega), if_pos (by omega), cpI_n (by omega), cpI_n (by omega), cpI_n (by omega), cpI_n (by omega), s80 85 (by omega), (b1 85 (by omega)).1]
