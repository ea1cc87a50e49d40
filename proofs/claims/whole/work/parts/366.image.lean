-- needs: 365
/-! image. -/
def tbP : List Nat := [0, 1, 2, 3, 4, 0, 5, 6, 0, 7]
def lnP : List Nat := [0, 24, 6, 6, 4, 8, 8, 6]
def HgP (G0 : Gm) (S0 : St) (c : Nat) (G : Gm) (S : St) : Prop := G.2.2 = G0.2.2 + 1 + c ∧ (∀ i, i < G0.2.2 → G.1 i = G0.1 i ∧ G.2.1 i = G0.2.1 i ∧ S.1 i = S0.1 i ∧ S.2.1 i = S0.2.1 i ∧ S.2.2 i = S0.2.2 i) ∧ G.1 G0.2.2 = 4 ∧ (∀ i, i ≤ c → S.1 (G0.2.2 + i) = fun _ => 0) ∧ (∀ j, S.2.2 G0.2.2 j = if tbP.getD j 0 ≠ 0 ∧ tbP.getD j 0 ≤ c then some (G0.2.2 + tbP.getD j 0) else none) ∧ (∀ i, 1 ≤ i → i ≤ c → G.2.1 (G0.2.2 + i) = lnP.getD i 0)
theorem HgP.step {G0 G : Gm} {S0 S : St} {c jc kd n : Nat} (h : HgP G0 S0 c G S) (h1 : tbP.getD jc 0 = c + 1) (h2 : ∀ j, tbP.getD j 0 = c + 1 → j = jc) (hn : n = lnP.getD (c + 1) 0) : HgP G0 S0 (c + 1) (gN G kd n) (uR (sN S G.2.2) G0.2.2 jc (some G.2.2)) := by
  obtain ⟨a1, a2, a3, a4, a5, a6⟩ := h
  have u1 : ∀ (S : St) i j v, (uR S i j v).1 = S.1 := fun _ _ _ _ => rfl
  have u2 : ∀ (S : St) i j v, (uR S i j v).2.1 = S.2.1 := fun _ _ _ _ => rfl
  refine ⟨by rw [gN_3, a1]; omega, fun i hi => ⟨?_, ?_, ?_, ?_, ?_⟩, ?_, fun i hi => ?_, fun j => ?_, fun i h1 h2 => ?_⟩
  · rw [gN_1 (by omega)]; exact (a2 i hi).1
  · rw [gN_2 (by omega)]; exact (a2 i hi).2.1
  · rw [u1, sN_1 (by omega)]; exact (a2 i hi).2.2.1
  · rw [u2, sN_21 (by omega)]; exact (a2 i hi).2.2.2.1
  · rw [uR_n (by omega), sN_22 (by omega)]; exact (a2 i hi).2.2.2.2
  · rw [gN_1 (by omega)]; exact a3
  · rw [u1]
    by_cases e : i = c + 1
    · rw [e, show G0.2.2 + (c + 1) = G.2.2 from by omega, sN_1s]
    · rw [sN_1 (by omega)]; exact a4 i (by omega)
  · rw [uR_s, sN_22 (by omega), a5]
    by_cases e : j = jc
    · rw [if_pos e, e, h1, if_pos ⟨by omega, by omega⟩, a1]; congr 1; omega
    · rw [if_neg e]
      have : tbP.getD j 0 ≠ c + 1 := fun e' => e (h2 j e')
      by_cases e2 : tbP.getD j 0 ≠ 0 ∧ tbP.getD j 0 ≤ c
      · rw [if_pos e2, if_pos ⟨e2.1, by omega⟩]
      · rw [if_neg e2, if_neg (by omega)]
  · by_cases e : i = c + 1
    · rw [e, show G0.2.2 + (c + 1) = G.2.2 from by omega, gN_2s]; exact hn
    · rw [gN_2 (by omega)]; exact a6 i h1 (by omega)
theorem tb_u {c jc : Nat} (hc : c < 7) (h1 : tbP.getD jc 0 = c + 1) : ∀ j, tbP.getD j 0 = c + 1 → j = jc := by
  have nn : ∀ j, 10 ≤ j → tbP.getD j 0 = 0 := fun j hj => by
    obtain ⟨k, rfl⟩ := Nat.exists_eq_add_of_le' hj
    rfl
  have key : ∀ x, x < 10 → ∀ y, y < 10 → tbP.getD x 0 ≠ 0 → tbP.getD x 0 = tbP.getD y 0 → x = y := by decide
  intro j hj
  by_cases e : j < 10
  · by_cases e2 : jc < 10
    · exact key j e jc e2 (by omega) (by omega)
    · have := nn jc (by omega); omega
  · have := nn j (by omega); omega
def b0P : Rw := fun i => if i = 5 then 1 else 0
theorem b0P_v : Va b0P := by
  refine ⟨by decide, by decide, by decide, by decide, by decide, by decide, by decide, by decide, fun i _ => ?_, fun i _ => ?_, fun i _ => ?_, fun i _ => ?_, fun i _ => ?_, fun i hi => ?_⟩
  · unfold b0P; split <;> omega
  · show vG (b0P (32 + i)); unfold b0P; rw [if_neg (by omega)]; exact vG_0
  · unfold b0P; split <;> omega
  · unfold b0P; split <;> omega
  · unfold b0P; split <;> omega
  · exact absurd hi (by show ¬ i < 0; omega)
def upI (I : Im) (x : Nat) (v : Rw × (Nat → Lw)) : Im := fun k => if k = x then some v else I k
section
variable {G : Gm} {S S' : St} {p r q : Nat} {a b m : Rw} {L M : Nat → Lw} {I : Im} {un tn : Nat} {u : Un} {T : Nat → Nat} {fl : Nat → Int32} {Q : Int32 → St → Prop} {K : Gm → St → Prop}
/-- a parish is hung up -/
theorem c_parInit {KK : Gm → St → Prop} (z : ∀ G' S', G'.2.2 = G.2.2 + 8 → (∀ i, i < G.2.2 → G'.1 i = G.1 i ∧ G'.2.1 i = G.2.1 i ∧ S'.1 i = S.1 i ∧ S'.2.1 i = S.2.1 i ∧ S'.2.2 i = S.2.2 i) → G'.1 G.2.2 = 4 → PSh G' S'.2.2 G.2.2 → ParC S' G.2.2 b0P → KK G' S') : f_X5_init (gN G 4 0) G.2.2 KK (sN S G.2.2) := by
  have h0 : HgP G S 0 (gN G 4 0) (sN S G.2.2) := by
    refine ⟨rfl, fun i hi => ⟨gN_1 (by omega), gN_2 (by omega), sN_1 (by omega), sN_21 (by omega), sN_22 (by omega)⟩, gN_1s, fun i hi => ?_, fun j => ?_, fun i h1 h2 => by omega⟩
    · rw [show G.2.2 + i = G.2.2 from by omega]; exact sN_1s
    · rw [sN_22s, if_neg (by omega)]
  have h1 := h0.step (jc := 1) (kd := 11) (n := 24) rfl (tb_u (by omega) rfl) rfl
  have h2 := h1.step (jc := 2) (kd := 11) (n := 6) rfl (tb_u (by omega) rfl) rfl
  have h3 := h2.step (jc := 3) (kd := 11) (n := 6) rfl (tb_u (by omega) rfl) rfl
  have h4 := h3.step (jc := 4) (kd := 11) (n := 4) rfl (tb_u (by omega) rfl) rfl
  have h5 := h4.step (jc := 6) (kd := 11) (n := 8) rfl (tb_u (by omega) rfl) rfl
  have h6 := h5.step (jc := 7) (kd := 11) (n := 8) rfl (tb_u (by omega) rfl) rfl
  have h7 := h6.step (jc := 9) (kd := 15) (n := 6) rfl (tb_u (by omega) rfl) rfl
  have fin : ∀ (G7 : Gm) (S7 : St), HgP G S 7 G7 S7 → (∃ a65, (uI S7 G.2.2 10 (-1)).2.2 G.2.2 4 = some a65 ∧ (vp_in 1 (G7.2.1 a65) ∧ ∀ S67, S67 = uI (uI S7 G.2.2 10 (-1)) a65 (1 : Int32).toNatClampNeg 1 → KK G7 S67)) := by
    intro G7 S7 ⟨a1, a2, a3, a4, a5, a6⟩
    have r4 : S7.2.2 G.2.2 4 = some (G.2.2 + 4) := a5 4
    refine ex_y r4 ⟨?_, nm_e (z _ _ (by rw [a1]) (fun i hi => ?_) a3 ?_ ?_)⟩
    · rw [show G7.2.1 (G.2.2 + 4) = 4 from a6 4 (by omega) (by omega)]; exact (in_iff (k := 1) (by omega)).mpr (by omega)
    · obtain ⟨b1, b2, b3, b4, b5⟩ := a2 i hi
      exact ⟨b1, b2, by rw [uI_n _ _ _ _ (by omega), uI_n _ _ _ _ (by omega)]; exact b3, b4, b5⟩
    · exact ⟨a5 1, a5 2, a5 3, a5 4, a5 6, a5 7, a5 9, a6 1 (by omega) (by omega), a6 2 (by omega) (by omega), a6 3 (by omega) (by omega), a6 4 (by omega) (by omega), a6 5 (by omega) (by omega), a6 6 (by omega) (by omega), a6 7 (by omega) (by omega)⟩
    · have n0 : ∀ j, j ≠ 10 → (uI (uI S7 G.2.2 10 (-1)) (G.2.2 + 4) (1 : Int32).toNatClampNeg 1).1 G.2.2 j = 0 := fun j hj => by
        rw [uI_n _ _ _ _ (by omega), uI_s, if_neg hj]
        exact congrFun (a4 0 (by omega)) j
      have n1 : ∀ i, 1 ≤ i → i ≤ 7 → i ≠ 4 → (uI (uI S7 G.2.2 10 (-1)) (G.2.2 + 4) (1 : Int32).toNatClampNeg 1).1 (G.2.2 + i) = fun _ => 0 := fun i h1 h2 h3 => by
        rw [uI_n _ _ _ _ (by omega), uI_n _ _ _ _ (by omega)]; exact a4 i h2
      have z0 : ∀ i, i ≠ 5 → nI (b0P i) = 0 := fun i hi => by unfold b0P; rw [if_neg hi]; rfl
      refine ⟨?_, ?_, ?_, ?_, fun k hk => ?_, fun k hk => ?_, fun k hk => ?_, fun k hk => ?_, fun k hk => ?_, fun k hk => ?_⟩
      · rw [n0 0 (by omega), z0 _ (by omega)]
      · rw [n0 5 (by omega), z0 _ (by omega)]
      · rw [n0 8 (by omega), z0 _ (by omega)]
      · rw [uI_n _ _ _ _ (by omega), uI_s, if_pos rfl, z0 _ (by omega)]; rfl
      · rw [uI_s]
        by_cases e : k = 1
        · subst e; rw [if_pos (show 1 = (1 : Int32).toNatClampNeg from rfl)]; rfl
        · rw [if_neg (by show k ≠ 1; exact e), uI_n _ _ _ _ (by omega), a4 4 (by omega), z0 _ (by omega)]
      · rw [n1 1 (by omega) (by omega) (by omega), z0 _ (by omega)]
      · rw [n1 2 (by omega) (by omega) (by omega), z0 _ (by omega)]
      · rw [n1 3 (by omega) (by omega) (by omega), z0 _ (by omega)]
      · rw [n1 5 (by omega) (by omega) (by omega), z0 _ (by omega)]
      · rw [n1 6 (by omega) (by omega) (by omega), z0 _ (by omega)]
  have w := fin _ _ h7
  refine nm_e (nm_e (nm_e (nm_e (nm_e (nm_e (nm_e (nm_e (nm_e (nm_e (nm_e (nm_e (nm_e (nm_e (nm_e (nm_e (nm_e (nm_e (nm_e (nm_e (nm_e (nm_e (nm_e (nm_e (nm_e (nm_e (nm_e (nm_e (nm_e ?_))))))))))))))))))))))))))))
  exact w
/-- laws seen from another place -/
theorem LwD.cq {x : Nat} (h : LwD G S r a L) (h6 : a 2 ≤ 6) (hM : ∀ i, 121 ≤ i → (i < x ∨ x + 7 < i) → S'.1 i = S.1 i) (hR : ∀ i, 121 ≤ i → (i < x ∨ x + 7 < i) → S'.2.2 i = S.2.2 i) (h17 : S'.2.2 17 = S.2.2 17) (e : ∀ k, k < 6 → S'.2.2 (p + 7) k = S.2.2 (r + 7) k) (hd : ∀ k, k < a 2 → ∀ t, S.2.2 (r + 7) k = some t → t + 5 < x ∨ x + 7 < t) : LwD G S' p a L := by
  refine ⟨fun k hk => ?_, fun k hk t ht => ?_⟩
  · obtain ⟨t, t1, t2, t3⟩ := h.1 k hk
    have d := hd k hk t t1
    exact ⟨t, by rw [e k (by omega)]; exact t1, t2, t3.fr (fun i h1 h2 => hM i (by omega) (by omega)) (hR t t2 (by omega))⟩
  · rw [e k (by omega)] at ht
    have := h.2 k hk t ht
    unfold Dj at this ⊢
    rw [h17]; exact this
theorem C_image {x : Nat} {QQ : Int32 → Gm → St → Prop} (hC : Cls G S a L I un u T tn fl m) (hV : Va a) (hI : ∀ k b M, I k = some (b, M) → Va b) (hx : x < 2) (e1 : I x = some (b, M)) (e2 : S.2.2 17 x = some q) (z : ∀ S', Cls G S' a L (upI I x (a, L)) un u T tn (flA fl) m → OffR S S' → QQ 0 G S') : f_X10_image_41 G 0 q QQ S := by
  obtain ⟨g1, g2, g3, g4, g5, g6, g7, g8, g9⟩ := hC
  obtain ⟨i1, i2, i3⟩ := g5
  obtain ⟨q', b', M', w1, w2, w3, w4, w5, w6, w7, w8⟩ := (i1 x hx).resolve_left (fun h => by rw [e1] at h; cases h.1)
  rw [e2] at w2; cases w2
  refine ex_y g1.r0_0 (c_copyFrom w6 g1.p1 g2 (by omega) (fun S1 ⟨s1, s2, s3, s4, s5⟩ hP1 => ?_))
  have oth : ∀ i, i < 121 → S1.1 i = S.1 i := fun i hi => s2 i (by omega)
  have othR : ∀ i, i < 121 → S1.2.2 i = S.2.2 i := fun i hi => s3 i (by omega)
  have tx : ∀ {r : Nat} {c : Rw} {N : Nat → Lw}, LwD G S r c N → ∀ k, k < c 2 → ∀ t, S.2.2 (r + 7) k = some t → t + 5 < q ∨ q + 7 < t := fun h k hk t ht => h.2 k hk t ht x q e2
  have hM' : ∀ i, 121 ≤ i → (i < q ∨ q + 7 < i) → S1.1 i = S.1 i := fun i _ h => s2 i (by omega)
  have hR' : ∀ i, 121 ≤ i → (i < q ∨ q + 7 < i) → S1.2.2 i = S.2.2 i := fun i _ h => s3 i (by omega)
  have hC1 : Cls G S1 a L (upI I x (a, L)) un u T tn fl m := by
    refine ⟨g1.fr (fun i j hi _ _ _ _ => by rw [othR i (by omega)]) (fun _ _ => rfl) (Nat.le_refl _), g2.ag (fun i _ _ => oth i (by omega)), g3.cq hV.2.2.1 hM' hR' (othR 17 (by omega)) (fun k _ => by rw [othR _ (by omega)]) (tx g3), g4.ag (oth _ (by omega)) (oth _ (by omega)) (oth _ (by omega)), ⟨fun k hk => ?_, by rw [othR 17 (by omega)]; exact i2, by rw [othR 17 (by omega)]; exact i3⟩, g6.ag (oth _ (by omega)) (oth _ (by omega)), g7.ag (by rw [oth 75 (by omega)]) (oth _ (by omega)), g8.ag (oth _ (by omega)) (by rw [oth 75 (by omega)]) (oth _ (by omega)), g9.ag (fun i _ _ => oth i (by omega))⟩
    unfold upI
    by_cases e : k = x
    · subst e
      rw [if_pos rfl]
      refine .inr ⟨q, a, L, rfl, by rw [othR 17 (by omega)]; exact e2, w3, w4, w5, ?_, hP1, g3.cq hV.2.2.1 hM' hR' (othR 17 (by omega)) s4 (tx g3)⟩
      unfold PSh; rw [s3 q (by omega)]; exact w6
    · rw [if_neg e]
      rcases i1 k hk with ⟨y1, y2⟩ | ⟨q2, b2, M2, y1, y2, y3, y4, y5, y6, y7, y8⟩
      · exact .inl ⟨y1, by rw [othR 17 (by omega)]; exact y2⟩
      · have dis : q2 + 7 < q ∨ q + 7 < q2 := by
          have hk' : (k = 0 ∧ x = 1) ∨ (k = 1 ∧ x = 0) := by omega
          rcases hk' with ⟨rfl, rfl⟩ | ⟨rfl, rfl⟩
          · exact i2 q2 q y2 e2
          · exact (i2 q q2 e2 y2).symm
        refine .inr ⟨q2, b2, M2, y1, by rw [othR 17 (by omega)]; exact y2, y3, y4, y5, ?_, y7.ag (fun i h1 h2 => s2 i (by omega)), y8.cq (hI k b2 M2 y1).2.2.1 hM' hR' (othR 17 (by omega)) (fun j _ => by rw [s3 _ (by omega)]) (tx y8)⟩
        unfold PSh; rw [s3 q2 (by omega)]; exact y6
  have oR : OffR S S1 := fun i h1 h2 => ⟨oth i (by omega), by rw [s1], othR i (by omega)⟩
  exact C_accept hC1 (fun S2 hC2 o2 => z S2 hC2 (oR.trans o2))
end
