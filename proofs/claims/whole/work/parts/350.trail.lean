-- needs: 345
/-! What was: the trail of the class and the undos of the reference. -/
def psh (x : Nat × Rw) (u : Un) : Un := fun k => if k = 0 then x else u (k - 1)
theorem cpI_g {S : St} {a d k n sp dp : Nat} (hn : n < 2147483648) (hs : sp < 2147483648) (hd : dp < 2147483648) : (cpI S a (nI sp) d (nI dp) (nI n)).1 d k = if dp ≤ k ∧ k < dp + n then S.1 a (sp + (k - dp)) else S.1 d k := by
  show (if d = d then va_cpy (S.1 a) (S.1 d) _ _ _ else S.1 d) k = _
  rw [if_pos rfl, clI hn, clI hs, clI hd]
  rfl
theorem cp_okg {n a b sp dp : Nat} (hn : n < 2147483648) (hs : sp < 2147483648) (hd : dp < 2147483648) (h1 : sp + n ≤ a) (h2 : dp + n ≤ b) : cpOk (nI sp) (nI dp) (nI n) a b := by
  refine ⟨nI_nn hs, nI_nn hd, nI_nn hn, ?_, ?_⟩
  · rw [clI hn, clI hs]; exact h1
  · rw [clI hn, clI hd]; exact h2
theorem fm_n {G : Gm} {S : St} {Q : Int32 → St → Prop} {n : Nat} (hn : n ≤ 16) (h : Q (nI (n % 16)) S) : f_J9_floorMod_7cf53 G (nI n) 16 Q S := by
  refine ⟨by decide, ?_⟩
  have e : n = 0 ∨ n = 1 ∨ n = 2 ∨ n = 3 ∨ n = 4 ∨ n = 5 ∨ n = 6 ∨ n = 7 ∨ n = 8 ∨ n = 9 ∨ n = 10 ∨ n = 11 ∨ n = 12 ∨ n = 13 ∨ n = 14 ∨ n = 15 ∨ n = 16 := by omega
  rcases e with rfl | rfl | rfl | rfl | rfl | rfl | rfl | rfl | rfl | rfl | rfl | rfl | rfl | rfl | rfl | rfl | rfl <;> exact nm_e (ite_y (by decide) h)
theorem fm_m {G : Gm} {S : St} {Q : Int32 → St → Prop} {n : Nat} (hn : n < 16) (h : Q (nI ((n + 15) % 16)) S) : f_J9_floorMod_7cf53 G (nI n - 1) 16 Q S := by
  by_cases h0 : n = 0
  · subst h0
    exact ⟨by decide, nm_e (ite_n (by decide) (ite_n (by decide) h))⟩
  · rw [lit, sbI (by omega)]
    refine fm_n (by omega) ?_
    rw [show (n - 1) % 16 = (n + 15) % 16 from by omega]; exact h
theorem mn16 {n : Nat} (hn : n ≤ 16) : mn (nI n + 1) 16 = nI (min 16 (n + 1)) := by
  have e : n = 0 ∨ n = 1 ∨ n = 2 ∨ n = 3 ∨ n = 4 ∨ n = 5 ∨ n = 6 ∨ n = 7 ∨ n = 8 ∨ n = 9 ∨ n = 10 ∨ n = 11 ∨ n = 12 ∨ n = 13 ∨ n = 14 ∨ n = 15 ∨ n = 16 := by omega
  rcases e with rfl | rfl | rfl | rfl | rfl | rfl | rfl | rfl | rfl | rfl | rfl | rfl | rfl | rfl | rfl | rfl | rfl <;> rfl
theorem mx16 {n : Nat} (hn : n ≤ 16) (h0 : n ≠ 0) : mx (nI n - 1) 0 = nI (n - 1) := by
  have e : n = 1 ∨ n = 2 ∨ n = 3 ∨ n = 4 ∨ n = 5 ∨ n = 6 ∨ n = 7 ∨ n = 8 ∨ n = 9 ∨ n = 10 ∨ n = 11 ∨ n = 12 ∨ n = 13 ∨ n = 14 ∨ n = 15 ∨ n = 16 := by omega
  rcases e with rfl | rfl | rfl | rfl | rfl | rfl | rfl | rfl | rfl | rfl | rfl | rfl | rfl | rfl | rfl | rfl <;> rfl
section
variable {G : Gm} {S S' : St} {p t un : Nat} {a : Rw} {u : Un} {Q : Int32 → St → Prop} {K : St → Prop}
theorem c_remember {v : Nat} (hH : PSh G S.2.2 p) (hP : ParC S p a) (hT : TrlC S t un u) (hu : un ≤ 16) (rt : S.2.2 t 0 = some (t + 1)) (lt : G.2.1 (t + 1) = 512) (hpt : p + 7 < t) (z : ∀ S', Fr (fun i => i = t ∨ i = t + 1) S S' → TrlC S' t (min 16 (un + 1)) (psh (v, a) u) → K S') : f_X9_remember G t p (nI v) K S := by
  obtain ⟨e2, nx, hnx, e1, hr⟩ := hT
  show f_J9_floorMod_7cf53 _ _ _ _ _
  rw [e1]
  refine fm_n (by omega) ?_
  rw [show nx % 16 = nx from by omega]
  refine nm_p (e' := nI (32 * nx)) (by rw [lit, pk_mul, Nat.mul_comm]) (ex_y hH.1 (ex_y rt ⟨?_, nm_e ?_⟩))
  · rw [hH.2.2.2.2.2.2.2.1, lt]; exact cp_okg (sp := 0) (n := 24) (by omega) (by omega) (by omega) (by omega) (by omega)
  have g1 : ∀ i, i ≠ t + 1 → (cpI S (p + 1) 0 (t + 1) (nI (32 * nx)) 24).1 i = S.1 i := fun i hi => cpI_n hi
  have g2 : ∀ k, (cpI S (p + 1) 0 (t + 1) (nI (32 * nx)) 24).1 (t + 1) k = if 32 * nx ≤ k ∧ k < 32 * nx + 24 then S.1 (p + 1) (0 + (k - 32 * nx)) else S.1 (t + 1) k := fun k => cpI_g (sp := 0) (n := 24) (by omega) (by omega) (by omega)
  have g3 : (cpI S (p + 1) 0 (t + 1) (nI (32 * nx)) 24).2 = S.2 := rfl
  generalize cpI S (p + 1) 0 (t + 1) (nI (32 * nx)) 24 = S1 at g1 g2 g3 ⊢
  refine ex_y (by rw [g3]; exact hH.2.1) (ex_y (by rw [g3]; exact rt) ?_)
  rw [show nI (32 * nx) + 24 = nI (32 * nx + 24) from by rw [lit, nI_add], show nI (32 * nx) + 30 = nI (32 * nx + 30) from by rw [lit, nI_add], show nI (32 * nx) + 31 = nI (32 * nx + 31) from by rw [lit, nI_add]]
  refine ⟨?_, nm_e ?_⟩
  · rw [hH.2.2.2.2.2.2.2.2.1, lt]; exact cp_okg (sp := 0) (n := 6) (by omega) (by omega) (by omega) (by omega) (by omega)
  have k1 : ∀ i, i ≠ t + 1 → (cpI S1 (p + 2) 0 (t + 1) (nI (32 * nx + 24)) 6).1 i = S1.1 i := fun i hi => cpI_n hi
  have k2 : ∀ k, (cpI S1 (p + 2) 0 (t + 1) (nI (32 * nx + 24)) 6).1 (t + 1) k = if 32 * nx + 24 ≤ k ∧ k < 32 * nx + 24 + 6 then S1.1 (p + 2) (0 + (k - (32 * nx + 24))) else S1.1 (t + 1) k := fun k => cpI_g (sp := 0) (n := 6) (by omega) (by omega) (by omega)
  have k3 : (cpI S1 (p + 2) 0 (t + 1) (nI (32 * nx + 24)) 6).2 = S1.2 := rfl
  generalize cpI S1 (p + 2) 0 (t + 1) (nI (32 * nx + 24)) 6 = S2 at k1 k2 k3 ⊢
  have hP2 : ParC S2 p a := hP.ag (fun i h1 h2 => by rw [k1 i (by omega), g1 i (by omega)])
  have R2 : S2.2.2 = S.2.2 := by rw [k3, g3]
  refine ex_y (by rw [R2]; exact rt) (c_termOf (k := 0) (by rw [R2]; exact hH) hP2 (by omega) ⟨?_, nm_e ?_⟩)
  · rw [lt, in_iff (by omega)]; omega
  rw [clI (by omega)]
  refine ex_y (by show S2.2.2 _ _ = _; rw [R2]; exact rt) ⟨by rw [lt, in_iff (by omega)]; omega, nm_e ?_⟩
  rw [clI (by omega)]
  have c1 : ∀ (A B C D : St) i j w (x : Nat), x ≠ i → (uI A i j w).1 x = A.1 x := fun A _ _ _ i j w x h => uI_n A i j w h
  have en : (uI (uI S2 (t + 1) (32 * nx + 30) (nI (a 4))) (t + 1) (32 * nx + 31) (nI v)).1 t 1 = nI nx := by
    rw [uI_n _ _ _ _ (by omega), uI_n _ _ _ _ (by omega), k1 t (by omega), g1 t (by omega)]; exact e1
  have em : (uI (uI S2 (t + 1) (32 * nx + 30) (nI (a 4))) (t + 1) (32 * nx + 31) (nI v)).1 t 2 = nI un := by
    rw [uI_n _ _ _ _ (by omega), uI_n _ _ _ _ (by omega), k1 t (by omega), g1 t (by omega)]; exact e2
  rw [en, nI_1]
  refine fm_n (by omega) (nm_e ?_)
  refine nm_p (e' := uI (uI (uI (uI S2 (t + 1) (32 * nx + 30) (nI (a 4))) (t + 1) (32 * nx + 31) (nI v)) t 1 (nI ((nx + 1) % 16))) t 2 (nI (min 16 (un + 1)))) ?_ ?_
  · rw [uI_s, if_neg (by omega), em, mn16 hu]
  have fr : ∀ i, i ≠ t → i ≠ t + 1 → S2.1 i = S.1 i := fun i h1 h2 => by rw [k1 i h2, g1 i h2]
  refine z _ ?_ ?_
  · refine Fr.uI (Fr.uI (Fr.uI (Fr.uI ⟨R2, fun i hi => ⟨fr i (by omega) (by omega), by rw [k3, g3]⟩⟩ (by omega)) (by omega)) (by omega)) (by omega)
  · refine ⟨by rw [uI_s, if_pos rfl], (nx + 1) % 16, by omega, by rw [uI_s, if_neg (by omega), uI_s, if_pos rfl], fun k hk => ?_⟩
    have row : ∀ w, (uI (uI (uI (uI S2 (t + 1) (32 * nx + 30) (nI (a 4))) (t + 1) (32 * nx + 31) (nI v)) t 1 (nI ((nx + 1) % 16))) t 2 (nI (min 16 (un + 1)))).1 (t + 1) w = if w = 32 * nx + 31 then nI v else if w = 32 * nx + 30 then nI (a 4) else if 32 * nx + 24 ≤ w ∧ w < 32 * nx + 30 then S.1 (p + 2) (w - (32 * nx + 24)) else if 32 * nx ≤ w ∧ w < 32 * nx + 24 then S.1 (p + 1) (w - 32 * nx) else S.1 (t + 1) w := by
      intro w
      rw [uI_n _ _ _ _ (by omega), uI_n _ _ _ _ (by omega), uI_s, uI_s, k2, g1 (p + 2) (by omega), g2, Nat.zero_add, Nat.zero_add]
    generalize uI (uI (uI (uI S2 (t + 1) (32 * nx + 30) (nI (a 4))) (t + 1) (32 * nx + 31) (nI v)) t 1 (nI ((nx + 1) % 16))) t 2 (nI (min 16 (un + 1))) = S3 at row ⊢
    by_cases h0 : k = 0
    · subst h0
      rw [show ((nx + 1) % 16 + 15 - 0) % 16 = nx from by omega]
      show TRow _ _ (v, a)
      refine ⟨fun i hi => ?_, fun i hi => ?_, ?_, ?_⟩
      · rw [row, if_neg (by omega), if_neg (by omega), if_neg (by omega), if_pos (by omega), show 32 * nx + i - 32 * nx = i from by omega]; exact hP.2.2.2.2.2.1 i hi
      · rw [row, if_neg (by omega), if_neg (by omega), if_pos (by omega), show 32 * nx + 24 + i - (32 * nx + 24) = i from by omega]; exact hP.2.2.2.2.2.2.1 i hi
      · rw [row, if_neg (by omega), if_pos rfl]
      · rw [row, if_pos rfl]
    · have hk' : k - 1 < un := by omega
      have hk16 : k < 16 := by omega
      have e : ((nx + 1) % 16 + 15 - k) % 16 = (nx + 15 - (k - 1)) % 16 := by omega
      have ne : (nx + 15 - (k - 1)) % 16 ≠ nx := by omega
      rw [e]
      unfold psh
      rw [if_neg h0]
      obtain ⟨q1, q2, q3, q4⟩ := hr (k - 1) hk'
      generalize (nx + 15 - (k - 1)) % 16 = r at ne q1 q2 q3 q4 ⊢
      have old : ∀ w, 32 * r ≤ w → w < 32 * r + 32 → S3.1 (t + 1) w = S.1 (t + 1) w := by
        intro w h1 h2
        rw [row, if_neg (by omega), if_neg (by omega), if_neg (by omega), if_neg (by omega)]
      refine ⟨fun i hi => ?_, fun i hi => ?_, ?_, ?_⟩
      · rw [old _ (by omega) (by omega)]; exact q1 i hi
      · rw [old _ (by omega) (by omega)]; exact q2 i hi
      · rw [old _ (by omega) (by omega)]; exact q3
      · rw [old _ (by omega) (by omega)]; exact q4
end
