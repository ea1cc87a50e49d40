set_option maxHeartbeats 4000000 in
theorem jMna {p : Program} {l : Launch} {e : Env} {R : Room} {s : State} {m : MethodId} {args : Array Value} {below : List Frame} {meth : Method} {c : Code} {b : Nat} {D : va_G} {cy : Nat → ClassId} {cc : ByteArray} {own : String} {nL : Nat} {ret : Option FieldType} {Z : State → Prop} {cells slots : Nat} {G : Gm} {S : St} {pc : Nat} {lv : List (Nat × Value)} {st : List Value} (C : CX p s m args meth c b D cy cc own nL ret) (n : Nat) {idx : Nat} (d : decode cc pc = .ok (.multianewarray idx 2, 4)) (hn : pc + 4 = n) (hE : s.heap.size + cells ≤ b + G.2.2) (wl : Cond.classLink own idx "[[I" ∈ gw) (hc : cells + 6 ≤ R.cells) (hs : slots + 165 ≤ R.slots) (K : ∀ (a : Nat) (G1 : Gm) (S1 : St), a = G.2.2 → G1 = gM G → S1 = sM S a → J p l e R s m args below meth c b D cy nL Z (cells + 6) (slots + 165) G1 S1 n lv (.ref (b + a) :: st)) : J p l e R s m args below meth c b D cy nL Z cells slots G S pc lv (.int 32 :: .int 5 :: st) := by
  subst hn
  obtain ⟨hx, hb, hown, hts, hml, hr, hlk, sk, hbs⟩ := C
  intro H locs ls w v h
  have K := K G.2.2 (gM G) (sM S G.2.2) rfl rfl rfl
  intro T hT Xs
  have hHs : H.size = b + G.2.2 := w.2.2.1
  obtain ⟨vm₁, cA, comp, fA, fC, X', step⟩ := mn_step Xs hx hown (hts _ wl) (sk.2.2.2.2.2 : va_AI s) (hts _ wa_I) (g := F0 m pc ls (.int 32 :: .int 5 :: st)) rfl (by rw [hb]; exact d) rfl hc hs
  have e1 : cA = cy 16 := Option.some.inj (fA.symm.trans (sk.1.2 5 _ rfl).2)
  have e2 : comp = cy 11 := Option.some.inj (fC.symm.trans (sk.1.2 0 _ rfl).2)
  subst e1
  subst e2
  have hTh : (T.setVm vm₁).heap = H := hT
  obtain ⟨f1, f2, -⟩ := mnT_facts (T.setVm vm₁) (cy 16) (cy 11) 5
  have fold := fun (x : Nat) (hx : x < H.size) => mnT_old (T.setVm vm₁) (cy 16) (cy 11) (q := x) (by rw [hTh]; exact hx) 5
  have finn := fun (j : Nat) (hj : j < 5) => mnT_in (T.setVm vm₁) (cy 16) (cy 11) j 5 hj
  have hL : ∀ x ∈ mnL T.heap.size locs 5, b ≤ x.base := by
    intro x hx
    rcases mnL_mem 5 hx with h1 | h1
    · exact v.2.2 x h1
    · rw [h1, hT, hHs]
      exact Nat.le_add_right _ _
  generalize mnL T.heap.size locs 5 = locs' at X' hL
  have step : ∀ target, Steps p.tables e below ((mnT (T.setVm vm₁) (cy 16) (cy 11) 5).setTop (F0 m (pc + 4) ls (.ref T.heap.size :: st))) target → Steps p.tables e below (T.setTop (F0 m pc ls (.int 32 :: .int 5 :: st))) target := step
  generalize mnT (T.setVm vm₁) (cy 16) (cy 11) 5 = F at X' step f1 f2 fold finn
  rw [hTh] at f1 f2 fold finn
  have hP : va_P D vwCl (pl b cy (gM G) (sM S G.2.2)) F.heap := by
    intro k q hk
    by_cases hlt : k < G.2.2 + 6
    · rw [pl_get (G := gM G) hlt] at hk
      cases hk
      by_cases e : k = G.2.2
      · subst e
        have a1 : (gM G).1 G.2.2 = 16 := by simp [gM]
        have a2 : (gM G).2.1 G.2.2 = 5 := by simp [gM]
        rw [a1, a2]
        show F.heap[b + G.2.2]? = some (vp_cell _ _)
        rw [← hHs, f2, mnO, vp_cell_q]
        refine congrArg some (congrArg (arrV (cy 16) 5) (funext fun j => ?_))
        have e5 : (sM S G.2.2).2.2 G.2.2 j = if j < 5 then some (G.2.2 + 1 + j) else none := by simp only [sM, if_true]
        show va_rf (if j < 5 then some (H.size + 1 + j) else none) = va_rf (((sM S G.2.2).2.2 G.2.2 j).map (fun i => b + i))
        rw [e5]
        by_cases hj : j < 5
        · simp only [if_pos hj, Option.map_some]
          rw [show H.size + 1 + j = b + (G.2.2 + 1 + j) by omega]
        · simp only [if_neg hj, Option.map_none]
      · by_cases e2 : G.2.2 < k ∧ k ≤ G.2.2 + 5
        · have a1 : (gM G).1 k = 11 := by simp only [gM, if_neg e, if_pos e2]
          have a2 : (gM G).2.1 k = 32 := by simp only [gM, if_neg e, if_pos e2]
          rw [a1, a2]
          have h5 := finn (k - G.2.2 - 1) (by omega)
          rw [show H.size + 1 + (k - G.2.2 - 1) = b + k by omega] at h5
          show F.heap[b + k]? = some (vp_cell _ _)
          rw [h5]
          have e3 : (sM S G.2.2).1 k = fun _ => 0 := by
            have : G.2.2 ≤ k ∧ k ≤ G.2.2 + 5 := by omega
            simp only [sM, if_pos this]
          show some (mnI (cy 11)) = some (vp_cell (cy 11) (32, .inl ((sM S G.2.2).1 k)))
          rw [e3, mnI, vp_cell_i]
        · have hk' : k < G.2.2 := by omega
          have a1 : (gM G).1 k = G.1 k := (ext_mna.2 k hk').1
          have a2 : (gM G).2.1 k = G.2.1 k := (ext_mna.2 k hk').2
          rw [a1, a2]
          have n1 : ¬ (G.2.2 ≤ k ∧ k ≤ G.2.2 + 5) := by omega
          rw [ce_rows (S := S) (by simp only [sM, if_neg n1]) (by simp only [sM, if_neg n1]) (by simp only [sM, if_neg e, if_neg e2])]
          have h6 := w.1 k _ (pl_get hk')
          exact h6.kept (fold (b + k) (by omega))
    · rw [List.getElem?_eq_none (by rw [pl_len]; show G.2.2 + 6 ≤ k; omega)] at hk
      cases hk
  have w1 : Wd b D cy (gM G) (sM S G.2.2) F.heap := ⟨hP, pl_D, by rw [f1]; show _ = b + (G.2.2 + 6); omega, wt_mna w.2.2.2⟩
  have v1 : va_S (fun q => b ≤ q) s.heap F.heap locs' := ⟨by rw [f1]; have := v.1; omega, fun q h1 h2 => (fold q (Nat.lt_of_lt_of_le h1 v.1)).trans (v.2.1 q h1 h2), hL⟩
  obtain ⟨t, a1, b1⟩ := K F.heap locs' ls w1 v1 h F rfl X'
  refine ⟨t, step t ?_, b1⟩
  rw [show T.heap.size = b + G.2.2 by rw [hT]; exact hHs]
  exact a1
