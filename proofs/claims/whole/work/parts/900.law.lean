/-! THE LAW: its cases, its loop, its start -/
theorem jXa {p : Program} {l : Launch} {e : Env} {s : State} {m : MethodId} {below : List Frame} {meth : Method} {c : Code} {b : Nat} {D : va_G} {cy : Nat → ClassId} {rt : Option FieldType} {Z : State → Prop} {cells slots : Nat} {G : Gm} {S : St} {sb L it x mm : Nat} {xs : Nat → Int32} {x3 : Int32} {st : List Value} (C : CX p s m #[.ref sb] meth c b D cy cL_law RL 4 rt) {pc : Nat} (n j : Nat) (hj : j < 6) (hd : dcs cL_law 4 [(.aload_n 0, 1, 0), (.iload_n 3, 1, 0), (.iconst (j : Int), 1, nI j), (.iadd, 1, 0)] pc = true) (d : decode cL_law (pc + 4) = .ok (.iaload, 1)) (hn : pc + 5 = n) (hX : va_X sb L xs s s.heap) (hsb : sb < s.heap.size) (hbb : b = s.heap.size) (hi : x3 = nI (6 * it)) (hl : 6 * it + 6 ≤ L) (hL : L ≤ 3072) (K : J p l e room_1 s m #[.ref sb] below meth c b D cy 4 Z cells slots G S (pc + 5) [(3, .int x3), (2, .ref (b + mm)), (1, .ref (b + x)), (0, .ref sb)] (.int (xs (6 * it + j)) :: st)) : J p l e room_1 s m #[.ref sb] below meth c b D cy 4 Z cells slots G S pc [(3, .int x3), (2, .ref (b + mm)), (1, .ref (b + x)), (0, .ref sb)] st := by
  subst hn
  refine jB C _ (pc + 4) [(3, .int x3), (2, .ref (b + mm)), (1, .ref (b + x)), (0, .ref sb)] (.int (x3 + nI j) :: .ref sb :: st) hd rfl rfl ?_
  obtain ⟨hx, hb, hown, hts, hml, hr, hlk, sk, hbs⟩ := C
  intro H locs ls w v h
  have e1 : x3 + nI j = nI (6 * it + j) := by rw [hi, nI_add]
  have hin : vp_in (x3 + nI j) L := by rw [e1]; exact vp_in_nI (by omega) (by omega)
  have e2 : (x3 + nI j).toNatClampNeg = 6 * it + j := by rw [e1]; exact nI_clamp (by omega)
  have K := K H locs ls w v h
  rw [← e2] at K
  exact va_sld hx hb hX hsb (by show ¬ b ≤ sb; omega) v hin d K
def lw_0 (G : Gm) (x mm : Nat) (K : Gm → St → Prop) (S : St) : Prop := f_X10_person G x (fun r S1 => f_X11_person G mm (fun r2 S2 => r = r2 ∧ K G S2) S1) S
set_option maxHeartbeats 4000000 in
set_option maxRecDepth 100000 in
theorem jl_0 {p : Program} {l : Launch} {e : Env} {s : State} {m : MethodId} {below : List Frame} {meth : Method} {c : Code} {b : Nat} {D : va_G} {cy : Nat → ClassId} {rt : Option FieldType} {Z : State → Prop} {cells slots : Nat} {G : Gm} {S : St} {sb L it x mm : Nat} {xs : Nat → Int32} {x3 : Int32} {K : Gm → St → Prop} (C : CX p s m #[.ref sb] meth c b D cy cL_law RL 4 rt) (hX : va_X sb L xs s s.heap) (hsb : sb < s.heap.size) (hbb : b = s.heap.size) (hi : x3 = nI (6 * it)) (hl : 6 * it + 6 ≤ L) (hL : L ≤ 3072) (hcc : cells + 8 ≤ 600000) (hss : slots + 1000 ≤ 7302250) (tx : ok G 9 x) (tm : ok G 10 mm) (h : lw_0 G x mm K S) (hK : ∀ G1 S1, ext G G1 → K G1 S1 → J p l e room_1 s m #[.ref sb] below meth c b D cy 4 Z (cells + 8) (slots + 1000) G1 S1 1276 [(3, .int x3), (2, .ref (b + mm)), (1, .ref (b + x)), (0, .ref sb)] []) : J p l e room_1 s m #[.ref sb] below meth c b D cy 4 Z cells slots G S 212 [(3, .int x3), (2, .ref (b + mm)), (1, .ref (b + x)), (0, .ref sb)] [] := by
  unfold lw_0 at h
  refine jB C [(.aload_n 1, 1, 0)] 213 [(3, .int x3), (2, .ref (b + mm)), (1, .ref (b + x)), (0, .ref sb)] [.ref (b + x)] (by decide +kernel) rfl rfl ?_
  refine jcV_I C 216 (rest := []) (ok_X10_person tx h) (by decide +kernel : decode cL_law 213 = .ok (.invokevirtual 13, 3)) rfl wd_351 wd_352 wd_353 wd_1 wd_354 ⟨rfl, rfl⟩ hd_X10_person ⟨Nat.le_of_ble_eq_true rfl, Nat.le_of_ble_eq_true rfl⟩ tx kX10 (by decide) rfl rfl rfl (Nat.le_of_ble_eq_true rfl) ⟨by show _ ≤ 600000; omega, by show _ ≤ 7302250; omega⟩ (fun r S1 h => ?_)
  have hx1 : ext G G := ext.rf
  refine jB C [(.aload_n 2, 1, 0)] 217 [(3, .int x3), (2, .ref (b + mm)), (1, .ref (b + x)), (0, .ref sb)] [.ref (b + mm), .int r] (by decide +kernel) rfl rfl ?_
  refine jcV_I C 220 (rest := [.int r]) (ok_X11_person tm h) (by decide +kernel : decode cL_law 217 = .ok (.invokevirtual 17, 3)) rfl wd_1363 wd_1364 wd_1365 wd_12 wd_1366 ⟨rfl, rfl⟩ hd_X11_person ⟨Nat.le_of_ble_eq_true rfl, Nat.le_of_ble_eq_true rfl⟩ tm kX11 (by decide) rfl rfl rfl (Nat.le_of_ble_eq_true rfl) ⟨by show _ ≤ 600000; omega, by show _ ≤ 7302250; omega⟩ (fun r2 S2 h => ?_)
  refine jIcmp_eq C 223 1276 (by decide +kernel : decode cL_law 220 = .ok (.if_icmp .eq 1056, 3)) rfl rfl (fun _ => ?_) (fun c1 => absurd h.1 c1)
  exact jWid (by omega) (by omega) (hK _ _ hx1 h.2)
def lw_1 (G : Gm) (x mm : Nat) (a1 a2 : Int32) (K : Gm → St → Prop) (S : St) : Prop := f_X10_of G x a1 a2 (fun r S1 => f_X11_of G mm a1 a2 (fun r2 S2 => r = r2 ∧ K G S2) S1) S
set_option maxHeartbeats 4000000 in
set_option maxRecDepth 100000 in
theorem jl_1 {p : Program} {l : Launch} {e : Env} {s : State} {m : MethodId} {below : List Frame} {meth : Method} {c : Code} {b : Nat} {D : va_G} {cy : Nat → ClassId} {rt : Option FieldType} {Z : State → Prop} {cells slots : Nat} {G : Gm} {S : St} {sb L it x mm : Nat} {xs : Nat → Int32} {x3 : Int32} {K : Gm → St → Prop} (C : CX p s m #[.ref sb] meth c b D cy cL_law RL 4 rt) (hX : va_X sb L xs s s.heap) (hsb : sb < s.heap.size) (hbb : b = s.heap.size) (hi : x3 = nI (6 * it)) (hl : 6 * it + 6 ≤ L) (hL : L ≤ 3072) (hcc : cells + 8 ≤ 600000) (hss : slots + 1000 ≤ 7302250) (tx : ok G 9 x) (tm : ok G 10 mm) (h : lw_1 G x mm (xs (6 * it + 1)) (xs (6 * it + 2)) K S) (hK : ∀ G1 S1, ext G G1 → K G1 S1 → J p l e room_1 s m #[.ref sb] below meth c b D cy 4 Z (cells + 8) (slots + 1000) G1 S1 1276 [(3, .int x3), (2, .ref (b + mm)), (1, .ref (b + x)), (0, .ref sb)] []) : J p l e room_1 s m #[.ref sb] below meth c b D cy 4 Z cells slots G S 225 [(3, .int x3), (2, .ref (b + mm)), (1, .ref (b + x)), (0, .ref sb)] [] := by
  unfold lw_1 at h
  refine jB C [(.aload_n 1, 1, 0)] 226 [(3, .int x3), (2, .ref (b + mm)), (1, .ref (b + x)), (0, .ref sb)] [.ref (b + x)] (by decide +kernel) rfl rfl ?_
  refine jXa C (it := it) 231 1 (by decide) (by decide +kernel) (by decide +kernel) rfl hX hsb hbb hi hl hL ?_
  refine jXa C (it := it) 236 2 (by decide) (by decide +kernel) (by decide +kernel) rfl hX hsb hbb hi hl hL ?_
  refine jcV_I C 239 (rest := []) (ok_X10_of tx h) (by decide +kernel : decode cL_law 236 = .ok (.invokevirtual 18, 3)) rfl wd_391 wd_392 wd_393 wd_1 wd_394 ⟨rfl, rfl⟩ hd_X10_of ⟨Nat.le_of_ble_eq_true rfl, Nat.le_of_ble_eq_true rfl⟩ tx kX10 (by decide) rfl rfl rfl (Nat.le_of_ble_eq_true rfl) ⟨by show _ ≤ 600000; omega, by show _ ≤ 7302250; omega⟩ (fun r S1 h => ?_)
  have hx1 : ext G G := ext.rf
  refine jB C [(.aload_n 2, 1, 0)] 240 [(3, .int x3), (2, .ref (b + mm)), (1, .ref (b + x)), (0, .ref sb)] [.ref (b + mm), .int r] (by decide +kernel) rfl rfl ?_
  refine jXa C (it := it) 245 1 (by decide) (by decide +kernel) (by decide +kernel) rfl hX hsb hbb hi hl hL ?_
  refine jXa C (it := it) 250 2 (by decide) (by decide +kernel) (by decide +kernel) rfl hX hsb hbb hi hl hL ?_
  refine jcV_I C 253 (rest := [.int r]) (ok_X11_of tm h) (by decide +kernel : decode cL_law 250 = .ok (.invokevirtual 22, 3)) rfl wd_1372 wd_1373 wd_1374 wd_12 wd_1375 ⟨rfl, rfl⟩ hd_X11_of ⟨Nat.le_of_ble_eq_true rfl, Nat.le_of_ble_eq_true rfl⟩ tm kX11 (by decide) rfl rfl rfl (Nat.le_of_ble_eq_true rfl) ⟨by show _ ≤ 600000; omega, by show _ ≤ 7302250; omega⟩ (fun r2 S2 h => ?_)
  refine jIcmp_eq C 256 1276 (by decide +kernel : decode cL_law 253 = .ok (.if_icmp .eq 1023, 3)) rfl rfl (fun _ => ?_) (fun c1 => absurd h.1 c1)
  exact jWid (by omega) (by omega) (hK _ _ hx1 h.2)
def lw_2 (G : Gm) (x mm : Nat) (a1 a2 a3 : Int32) (K : Gm → St → Prop) (S : St) : Prop := f_X10_asks G x a1 a2 a3 (fun r S1 => f_X11_asks G mm a1 a2 a3 (fun r2 S2 => r = r2 ∧ K G S2) S1) S
set_option maxHeartbeats 4000000 in
set_option maxRecDepth 100000 in
theorem jl_2 {p : Program} {l : Launch} {e : Env} {s : State} {m : MethodId} {below : List Frame} {meth : Method} {c : Code} {b : Nat} {D : va_G} {cy : Nat → ClassId} {rt : Option FieldType} {Z : State → Prop} {cells slots : Nat} {G : Gm} {S : St} {sb L it x mm : Nat} {xs : Nat → Int32} {x3 : Int32} {K : Gm → St → Prop} (C : CX p s m #[.ref sb] meth c b D cy cL_law RL 4 rt) (hX : va_X sb L xs s s.heap) (hsb : sb < s.heap.size) (hbb : b = s.heap.size) (hi : x3 = nI (6 * it)) (hl : 6 * it + 6 ≤ L) (hL : L ≤ 3072) (hcc : cells + 8 ≤ 600000) (hss : slots + 1000 ≤ 7302250) (tx : ok G 9 x) (tm : ok G 10 mm) (h : lw_2 G x mm (xs (6 * it + 1)) (xs (6 * it + 2)) (xs (6 * it + 3)) K S) (hK : ∀ G1 S1, ext G G1 → K G1 S1 → J p l e room_1 s m #[.ref sb] below meth c b D cy 4 Z (cells + 8) (slots + 1000) G1 S1 1276 [(3, .int x3), (2, .ref (b + mm)), (1, .ref (b + x)), (0, .ref sb)] []) : J p l e room_1 s m #[.ref sb] below meth c b D cy 4 Z cells slots G S 258 [(3, .int x3), (2, .ref (b + mm)), (1, .ref (b + x)), (0, .ref sb)] [] := by
  unfold lw_2 at h
  refine jB C [(.aload_n 1, 1, 0)] 259 [(3, .int x3), (2, .ref (b + mm)), (1, .ref (b + x)), (0, .ref sb)] [.ref (b + x)] (by decide +kernel) rfl rfl ?_
  refine jXa C (it := it) 264 1 (by decide) (by decide +kernel) (by decide +kernel) rfl hX hsb hbb hi hl hL ?_
  refine jXa C (it := it) 269 2 (by decide) (by decide +kernel) (by decide +kernel) rfl hX hsb hbb hi hl hL ?_
  refine jXa C (it := it) 274 3 (by decide) (by decide +kernel) (by decide +kernel) rfl hX hsb hbb hi hl hL ?_
  refine jcV_I C 277 (rest := []) (ok_X10_asks tx h) (by decide +kernel : decode cL_law 274 = .ok (.invokevirtual 23, 3)) rfl wd_494 wd_495 wd_496 wd_1 wd_497 ⟨rfl, rfl⟩ hd_X10_asks ⟨Nat.le_of_ble_eq_true rfl, Nat.le_of_ble_eq_true rfl⟩ tx kX10 (by decide) rfl rfl rfl (Nat.le_of_ble_eq_true rfl) ⟨by show _ ≤ 600000; omega, by show _ ≤ 7302250; omega⟩ (fun r S1 h => ?_)
  have hx1 : ext G G := ext.rf
  refine jB C [(.aload_n 2, 1, 0)] 278 [(3, .int x3), (2, .ref (b + mm)), (1, .ref (b + x)), (0, .ref sb)] [.ref (b + mm), .int r] (by decide +kernel) rfl rfl ?_
  refine jXa C (it := it) 283 1 (by decide) (by decide +kernel) (by decide +kernel) rfl hX hsb hbb hi hl hL ?_
  refine jXa C (it := it) 288 2 (by decide) (by decide +kernel) (by decide +kernel) rfl hX hsb hbb hi hl hL ?_
  refine jXa C (it := it) 293 3 (by decide) (by decide +kernel) (by decide +kernel) rfl hX hsb hbb hi hl hL ?_
  refine jcV_I C 296 (rest := [.int r]) (ok_X11_asks tm h) (by decide +kernel : decode cL_law 293 = .ok (.invokevirtual 27, 3)) rfl wd_1434 wd_1435 wd_1436 wd_12 wd_1437 ⟨rfl, rfl⟩ hd_X11_asks ⟨Nat.le_of_ble_eq_true rfl, Nat.le_of_ble_eq_true rfl⟩ tm kX11 (by decide) rfl rfl rfl (Nat.le_of_ble_eq_true rfl) ⟨by show _ ≤ 600000; omega, by show _ ≤ 7302250; omega⟩ (fun r2 S2 h => ?_)
  refine jIcmp_eq C 299 1276 (by decide +kernel : decode cL_law 296 = .ok (.if_icmp .eq 980, 3)) rfl rfl (fun _ => ?_) (fun c1 => absurd h.1 c1)
  exact jWid (by omega) (by omega) (hK _ _ hx1 h.2)
def lw_3 (G : Gm) (x mm : Nat) (a1 a2 : Int32) (K : Gm → St → Prop) (S : St) : Prop := f_X10_glass G x a1 a2 (fun r S1 => f_X11_glass G mm a1 a2 (fun r2 S2 => r = r2 ∧ K G S2) S1) S
set_option maxHeartbeats 4000000 in
set_option maxRecDepth 100000 in
theorem jl_3 {p : Program} {l : Launch} {e : Env} {s : State} {m : MethodId} {below : List Frame} {meth : Method} {c : Code} {b : Nat} {D : va_G} {cy : Nat → ClassId} {rt : Option FieldType} {Z : State → Prop} {cells slots : Nat} {G : Gm} {S : St} {sb L it x mm : Nat} {xs : Nat → Int32} {x3 : Int32} {K : Gm → St → Prop} (C : CX p s m #[.ref sb] meth c b D cy cL_law RL 4 rt) (hX : va_X sb L xs s s.heap) (hsb : sb < s.heap.size) (hbb : b = s.heap.size) (hi : x3 = nI (6 * it)) (hl : 6 * it + 6 ≤ L) (hL : L ≤ 3072) (hcc : cells + 8 ≤ 600000) (hss : slots + 1000 ≤ 7302250) (tx : ok G 9 x) (tm : ok G 10 mm) (h : lw_3 G x mm (xs (6 * it + 1)) (xs (6 * it + 2)) K S) (hK : ∀ G1 S1, ext G G1 → K G1 S1 → J p l e room_1 s m #[.ref sb] below meth c b D cy 4 Z (cells + 8) (slots + 1000) G1 S1 1276 [(3, .int x3), (2, .ref (b + mm)), (1, .ref (b + x)), (0, .ref sb)] []) : J p l e room_1 s m #[.ref sb] below meth c b D cy 4 Z cells slots G S 301 [(3, .int x3), (2, .ref (b + mm)), (1, .ref (b + x)), (0, .ref sb)] [] := by
  unfold lw_3 at h
  refine jB C [(.aload_n 1, 1, 0)] 302 [(3, .int x3), (2, .ref (b + mm)), (1, .ref (b + x)), (0, .ref sb)] [.ref (b + x)] (by decide +kernel) rfl rfl ?_
  refine jXa C (it := it) 307 1 (by decide) (by decide +kernel) (by decide +kernel) rfl hX hsb hbb hi hl hL ?_
  refine jXa C (it := it) 312 2 (by decide) (by decide +kernel) (by decide +kernel) rfl hX hsb hbb hi hl hL ?_
  refine jcV_I C 315 (rest := []) (ok_X10_glass tx h) (by decide +kernel : decode cL_law 312 = .ok (.invokevirtual 28, 3)) rfl wd_513 wd_514 wd_515 wd_1 wd_516 ⟨rfl, rfl⟩ hd_X10_glass ⟨Nat.le_of_ble_eq_true rfl, Nat.le_of_ble_eq_true rfl⟩ tx kX10 (by decide) rfl rfl rfl (Nat.le_of_ble_eq_true rfl) ⟨by show _ ≤ 600000; omega, by show _ ≤ 7302250; omega⟩ (fun r S1 h => ?_)
  have hx1 : ext G G := ext.rf
  refine jB C [(.aload_n 2, 1, 0)] 316 [(3, .int x3), (2, .ref (b + mm)), (1, .ref (b + x)), (0, .ref sb)] [.ref (b + mm), .int r] (by decide +kernel) rfl rfl ?_
  refine jXa C (it := it) 321 1 (by decide) (by decide +kernel) (by decide +kernel) rfl hX hsb hbb hi hl hL ?_
  refine jXa C (it := it) 326 2 (by decide) (by decide +kernel) (by decide +kernel) rfl hX hsb hbb hi hl hL ?_
  refine jcV_I C 329 (rest := [.int r]) (ok_X11_glass tm h) (by decide +kernel : decode cL_law 326 = .ok (.invokevirtual 31, 3)) rfl wd_1449 wd_1450 wd_1451 wd_12 wd_1452 ⟨rfl, rfl⟩ hd_X11_glass ⟨Nat.le_of_ble_eq_true rfl, Nat.le_of_ble_eq_true rfl⟩ tm kX11 (by decide) rfl rfl rfl (Nat.le_of_ble_eq_true rfl) ⟨by show _ ≤ 600000; omega, by show _ ≤ 7302250; omega⟩ (fun r2 S2 h => ?_)
  refine jIcmp_eq C 332 1276 (by decide +kernel : decode cL_law 329 = .ok (.if_icmp .eq 947, 3)) rfl rfl (fun _ => ?_) (fun c1 => absurd h.1 c1)
  exact jWid (by omega) (by omega) (hK _ _ hx1 h.2)
def lw_4 (G : Gm) (x mm : Nat) (a1 a2 : Int32) (K : Gm → St → Prop) (S : St) : Prop := f_X10_wanted G x a1 a2 (fun r S1 => f_X11_wanted G mm a1 a2 (fun r2 S2 => r = r2 ∧ K G S2) S1) S
set_option maxHeartbeats 4000000 in
set_option maxRecDepth 100000 in
theorem jl_4 {p : Program} {l : Launch} {e : Env} {s : State} {m : MethodId} {below : List Frame} {meth : Method} {c : Code} {b : Nat} {D : va_G} {cy : Nat → ClassId} {rt : Option FieldType} {Z : State → Prop} {cells slots : Nat} {G : Gm} {S : St} {sb L it x mm : Nat} {xs : Nat → Int32} {x3 : Int32} {K : Gm → St → Prop} (C : CX p s m #[.ref sb] meth c b D cy cL_law RL 4 rt) (hX : va_X sb L xs s s.heap) (hsb : sb < s.heap.size) (hbb : b = s.heap.size) (hi : x3 = nI (6 * it)) (hl : 6 * it + 6 ≤ L) (hL : L ≤ 3072) (hcc : cells + 8 ≤ 600000) (hss : slots + 1000 ≤ 7302250) (tx : ok G 9 x) (tm : ok G 10 mm) (h : lw_4 G x mm (xs (6 * it + 1)) (xs (6 * it + 2)) K S) (hK : ∀ G1 S1, ext G G1 → K G1 S1 → J p l e room_1 s m #[.ref sb] below meth c b D cy 4 Z (cells + 8) (slots + 1000) G1 S1 1276 [(3, .int x3), (2, .ref (b + mm)), (1, .ref (b + x)), (0, .ref sb)] []) : J p l e room_1 s m #[.ref sb] below meth c b D cy 4 Z cells slots G S 334 [(3, .int x3), (2, .ref (b + mm)), (1, .ref (b + x)), (0, .ref sb)] [] := by
  unfold lw_4 at h
  refine jB C [(.aload_n 1, 1, 0)] 335 [(3, .int x3), (2, .ref (b + mm)), (1, .ref (b + x)), (0, .ref sb)] [.ref (b + x)] (by decide +kernel) rfl rfl ?_
  refine jXa C (it := it) 340 1 (by decide) (by decide +kernel) (by decide +kernel) rfl hX hsb hbb hi hl hL ?_
  refine jXa C (it := it) 345 2 (by decide) (by decide +kernel) (by decide +kernel) rfl hX hsb hbb hi hl hL ?_
  refine jcV_I C 348 (rest := []) (ok_X10_wanted tx h) (by decide +kernel : decode cL_law 345 = .ok (.invokevirtual 32, 3)) rfl wd_518 wd_519 wd_520 wd_1 wd_521 ⟨rfl, rfl⟩ hd_X10_wanted ⟨Nat.le_of_ble_eq_true rfl, Nat.le_of_ble_eq_true rfl⟩ tx kX10 (by decide) rfl rfl rfl (Nat.le_of_ble_eq_true rfl) ⟨by show _ ≤ 600000; omega, by show _ ≤ 7302250; omega⟩ (fun r S1 h => ?_)
  have hx1 : ext G G := ext.rf
  refine jB C [(.aload_n 2, 1, 0)] 349 [(3, .int x3), (2, .ref (b + mm)), (1, .ref (b + x)), (0, .ref sb)] [.ref (b + mm), .int r] (by decide +kernel) rfl rfl ?_
  refine jXa C (it := it) 354 1 (by decide) (by decide +kernel) (by decide +kernel) rfl hX hsb hbb hi hl hL ?_
  refine jXa C (it := it) 359 2 (by decide) (by decide +kernel) (by decide +kernel) rfl hX hsb hbb hi hl hL ?_
  refine jcV_I C 362 (rest := [.int r]) (ok_X11_wanted tm h) (by decide +kernel : decode cL_law 359 = .ok (.invokevirtual 35, 3)) rfl wd_1461 wd_1462 wd_1463 wd_12 wd_1464 ⟨rfl, rfl⟩ hd_X11_wanted ⟨Nat.le_of_ble_eq_true rfl, Nat.le_of_ble_eq_true rfl⟩ tm kX11 (by decide) rfl rfl rfl (Nat.le_of_ble_eq_true rfl) ⟨by show _ ≤ 600000; omega, by show _ ≤ 7302250; omega⟩ (fun r2 S2 h => ?_)
  refine jIcmp_eq C 365 1276 (by decide +kernel : decode cL_law 362 = .ok (.if_icmp .eq 914, 3)) rfl rfl (fun _ => ?_) (fun c1 => absurd h.1 c1)
  exact jWid (by omega) (by omega) (hK _ _ hx1 h.2)
def lw_5 (G : Gm) (x mm : Nat) (a1 a2 : Int32) (K : Gm → St → Prop) (S : St) : Prop := f_X10_lens G x a1 a2 (fun r S1 => f_X11_lens G mm a1 a2 (fun r2 S2 => r = r2 ∧ K G S2) S1) S
set_option maxHeartbeats 4000000 in
set_option maxRecDepth 100000 in
theorem jl_5 {p : Program} {l : Launch} {e : Env} {s : State} {m : MethodId} {below : List Frame} {meth : Method} {c : Code} {b : Nat} {D : va_G} {cy : Nat → ClassId} {rt : Option FieldType} {Z : State → Prop} {cells slots : Nat} {G : Gm} {S : St} {sb L it x mm : Nat} {xs : Nat → Int32} {x3 : Int32} {K : Gm → St → Prop} (C : CX p s m #[.ref sb] meth c b D cy cL_law RL 4 rt) (hX : va_X sb L xs s s.heap) (hsb : sb < s.heap.size) (hbb : b = s.heap.size) (hi : x3 = nI (6 * it)) (hl : 6 * it + 6 ≤ L) (hL : L ≤ 3072) (hcc : cells + 8 ≤ 600000) (hss : slots + 1000 ≤ 7302250) (tx : ok G 9 x) (tm : ok G 10 mm) (h : lw_5 G x mm (xs (6 * it + 1)) (xs (6 * it + 2)) K S) (hK : ∀ G1 S1, ext G G1 → K G1 S1 → J p l e room_1 s m #[.ref sb] below meth c b D cy 4 Z (cells + 8) (slots + 1000) G1 S1 1276 [(3, .int x3), (2, .ref (b + mm)), (1, .ref (b + x)), (0, .ref sb)] []) : J p l e room_1 s m #[.ref sb] below meth c b D cy 4 Z cells slots G S 367 [(3, .int x3), (2, .ref (b + mm)), (1, .ref (b + x)), (0, .ref sb)] [] := by
  unfold lw_5 at h
  refine jB C [(.aload_n 1, 1, 0)] 368 [(3, .int x3), (2, .ref (b + mm)), (1, .ref (b + x)), (0, .ref sb)] [.ref (b + x)] (by decide +kernel) rfl rfl ?_
  refine jXa C (it := it) 373 1 (by decide) (by decide +kernel) (by decide +kernel) rfl hX hsb hbb hi hl hL ?_
  refine jXa C (it := it) 378 2 (by decide) (by decide +kernel) (by decide +kernel) rfl hX hsb hbb hi hl hL ?_
  refine jcV_I C 381 (rest := []) (ok_X10_lens tx h) (by decide +kernel : decode cL_law 378 = .ok (.invokevirtual 36, 3)) rfl wd_523 wd_524 wd_525 wd_1 wd_526 ⟨rfl, rfl⟩ hd_X10_lens ⟨Nat.le_of_ble_eq_true rfl, Nat.le_of_ble_eq_true rfl⟩ tx kX10 (by decide) rfl rfl rfl (Nat.le_of_ble_eq_true rfl) ⟨by show _ ≤ 600000; omega, by show _ ≤ 7302250; omega⟩ (fun r S1 h => ?_)
  have hx1 : ext G G := ext.rf
  refine jB C [(.aload_n 2, 1, 0)] 382 [(3, .int x3), (2, .ref (b + mm)), (1, .ref (b + x)), (0, .ref sb)] [.ref (b + mm), .int r] (by decide +kernel) rfl rfl ?_
  refine jXa C (it := it) 387 1 (by decide) (by decide +kernel) (by decide +kernel) rfl hX hsb hbb hi hl hL ?_
  refine jXa C (it := it) 392 2 (by decide) (by decide +kernel) (by decide +kernel) rfl hX hsb hbb hi hl hL ?_
  refine jcV_I C 395 (rest := [.int r]) (ok_X11_lens tm h) (by decide +kernel : decode cL_law 392 = .ok (.invokevirtual 39, 3)) rfl wd_1469 wd_1470 wd_1471 wd_12 wd_1472 ⟨rfl, rfl⟩ hd_X11_lens ⟨Nat.le_of_ble_eq_true rfl, Nat.le_of_ble_eq_true rfl⟩ tm kX11 (by decide) rfl rfl rfl (Nat.le_of_ble_eq_true rfl) ⟨by show _ ≤ 600000; omega, by show _ ≤ 7302250; omega⟩ (fun r2 S2 h => ?_)
  refine jIcmp_eq C 398 1276 (by decide +kernel : decode cL_law 395 = .ok (.if_icmp .eq 881, 3)) rfl rfl (fun _ => ?_) (fun c1 => absurd h.1 c1)
  exact jWid (by omega) (by omega) (hK _ _ hx1 h.2)
def lw_6 (G : Gm) (x mm : Nat) (a1 a2 : Int32) (K : Gm → St → Prop) (S : St) : Prop := f_X10_terms G x a1 a2 (fun r S1 => f_X11_terms G mm a1 a2 (fun r2 S2 => r = r2 ∧ K G S2) S1) S
set_option maxHeartbeats 4000000 in
set_option maxRecDepth 100000 in
theorem jl_6 {p : Program} {l : Launch} {e : Env} {s : State} {m : MethodId} {below : List Frame} {meth : Method} {c : Code} {b : Nat} {D : va_G} {cy : Nat → ClassId} {rt : Option FieldType} {Z : State → Prop} {cells slots : Nat} {G : Gm} {S : St} {sb L it x mm : Nat} {xs : Nat → Int32} {x3 : Int32} {K : Gm → St → Prop} (C : CX p s m #[.ref sb] meth c b D cy cL_law RL 4 rt) (hX : va_X sb L xs s s.heap) (hsb : sb < s.heap.size) (hbb : b = s.heap.size) (hi : x3 = nI (6 * it)) (hl : 6 * it + 6 ≤ L) (hL : L ≤ 3072) (hcc : cells + 8 ≤ 600000) (hss : slots + 1000 ≤ 7302250) (tx : ok G 9 x) (tm : ok G 10 mm) (h : lw_6 G x mm (xs (6 * it + 1)) (xs (6 * it + 2)) K S) (hK : ∀ G1 S1, ext G G1 → K G1 S1 → J p l e room_1 s m #[.ref sb] below meth c b D cy 4 Z (cells + 8) (slots + 1000) G1 S1 1276 [(3, .int x3), (2, .ref (b + mm)), (1, .ref (b + x)), (0, .ref sb)] []) : J p l e room_1 s m #[.ref sb] below meth c b D cy 4 Z cells slots G S 400 [(3, .int x3), (2, .ref (b + mm)), (1, .ref (b + x)), (0, .ref sb)] [] := by
  unfold lw_6 at h
  refine jB C [(.aload_n 1, 1, 0)] 401 [(3, .int x3), (2, .ref (b + mm)), (1, .ref (b + x)), (0, .ref sb)] [.ref (b + x)] (by decide +kernel) rfl rfl ?_
  refine jXa C (it := it) 406 1 (by decide) (by decide +kernel) (by decide +kernel) rfl hX hsb hbb hi hl hL ?_
  refine jXa C (it := it) 411 2 (by decide) (by decide +kernel) (by decide +kernel) rfl hX hsb hbb hi hl hL ?_
  refine jcV_I C 414 (rest := []) (ok_X10_terms tx h) (by decide +kernel : decode cL_law 411 = .ok (.invokevirtual 40, 3)) rfl wd_534 wd_535 wd_536 wd_1 wd_537 ⟨rfl, rfl⟩ hd_X10_terms ⟨Nat.le_of_ble_eq_true rfl, Nat.le_of_ble_eq_true rfl⟩ tx kX10 (by decide) rfl rfl rfl (Nat.le_of_ble_eq_true rfl) ⟨by show _ ≤ 600000; omega, by show _ ≤ 7302250; omega⟩ (fun r S1 h => ?_)
  have hx1 : ext G G := ext.rf
  refine jB C [(.aload_n 2, 1, 0)] 415 [(3, .int x3), (2, .ref (b + mm)), (1, .ref (b + x)), (0, .ref sb)] [.ref (b + mm), .int r] (by decide +kernel) rfl rfl ?_
  refine jXa C (it := it) 420 1 (by decide) (by decide +kernel) (by decide +kernel) rfl hX hsb hbb hi hl hL ?_
  refine jXa C (it := it) 425 2 (by decide) (by decide +kernel) (by decide +kernel) rfl hX hsb hbb hi hl hL ?_
  refine jcV_I C 428 (rest := [.int r]) (ok_X11_terms tm h) (by decide +kernel : decode cL_law 425 = .ok (.invokevirtual 43, 3)) rfl wd_1478 wd_1479 wd_1480 wd_12 wd_1481 ⟨rfl, rfl⟩ hd_X11_terms ⟨Nat.le_of_ble_eq_true rfl, Nat.le_of_ble_eq_true rfl⟩ tm kX11 (by decide) rfl rfl rfl (Nat.le_of_ble_eq_true rfl) ⟨by show _ ≤ 600000; omega, by show _ ≤ 7302250; omega⟩ (fun r2 S2 h => ?_)
  refine jIcmp_eq C 431 1276 (by decide +kernel : decode cL_law 428 = .ok (.if_icmp .eq 848, 3)) rfl rfl (fun _ => ?_) (fun c1 => absurd h.1 c1)
  exact jWid (by omega) (by omega) (hK _ _ hx1 h.2)
def lw_7 (G : Gm) (x mm : Nat) (a1 a2 a3 a4 a5 : Int32) (K : Gm → St → Prop) (S : St) : Prop := f_X10_feed G x a1 a2 a3 a4 a5 (fun r S1 => f_X11_feed G mm a1 a2 a3 a4 a5 (fun r2 S2 => r = r2 ∧ K G S2) S1) S
set_option maxHeartbeats 4000000 in
set_option maxRecDepth 100000 in
theorem jl_7 {p : Program} {l : Launch} {e : Env} {s : State} {m : MethodId} {below : List Frame} {meth : Method} {c : Code} {b : Nat} {D : va_G} {cy : Nat → ClassId} {rt : Option FieldType} {Z : State → Prop} {cells slots : Nat} {G : Gm} {S : St} {sb L it x mm : Nat} {xs : Nat → Int32} {x3 : Int32} {K : Gm → St → Prop} (C : CX p s m #[.ref sb] meth c b D cy cL_law RL 4 rt) (hX : va_X sb L xs s s.heap) (hsb : sb < s.heap.size) (hbb : b = s.heap.size) (hi : x3 = nI (6 * it)) (hl : 6 * it + 6 ≤ L) (hL : L ≤ 3072) (hcc : cells + 8 ≤ 600000) (hss : slots + 1000 ≤ 7302250) (tx : ok G 9 x) (tm : ok G 10 mm) (h : lw_7 G x mm (xs (6 * it + 1)) (xs (6 * it + 2)) (xs (6 * it + 3)) (xs (6 * it + 4)) (xs (6 * it + 5)) K S) (hK : ∀ G1 S1, ext G G1 → K G1 S1 → J p l e room_1 s m #[.ref sb] below meth c b D cy 4 Z (cells + 8) (slots + 1000) G1 S1 1276 [(3, .int x3), (2, .ref (b + mm)), (1, .ref (b + x)), (0, .ref sb)] []) : J p l e room_1 s m #[.ref sb] below meth c b D cy 4 Z cells slots G S 433 [(3, .int x3), (2, .ref (b + mm)), (1, .ref (b + x)), (0, .ref sb)] [] := by
  unfold lw_7 at h
  refine jB C [(.aload_n 1, 1, 0)] 434 [(3, .int x3), (2, .ref (b + mm)), (1, .ref (b + x)), (0, .ref sb)] [.ref (b + x)] (by decide +kernel) rfl rfl ?_
  refine jXa C (it := it) 439 1 (by decide) (by decide +kernel) (by decide +kernel) rfl hX hsb hbb hi hl hL ?_
  refine jXa C (it := it) 444 2 (by decide) (by decide +kernel) (by decide +kernel) rfl hX hsb hbb hi hl hL ?_
  refine jXa C (it := it) 449 3 (by decide) (by decide +kernel) (by decide +kernel) rfl hX hsb hbb hi hl hL ?_
  refine jXa C (it := it) 454 4 (by decide) (by decide +kernel) (by decide +kernel) rfl hX hsb hbb hi hl hL ?_
  refine jXa C (it := it) 459 5 (by decide) (by decide +kernel) (by decide +kernel) rfl hX hsb hbb hi hl hL ?_
  refine jcV_I C 462 (rest := []) (ok_X10_feed tx h) (by decide +kernel : decode cL_law 459 = .ok (.invokevirtual 44, 3)) rfl wd_545 wd_546 wd_547 wd_1 wd_548 ⟨rfl, rfl⟩ hd_X10_feed ⟨Nat.le_of_ble_eq_true rfl, Nat.le_of_ble_eq_true rfl⟩ tx kX10 (by decide) rfl rfl rfl (Nat.le_of_ble_eq_true rfl) ⟨by show _ ≤ 600000; omega, by show _ ≤ 7302250; omega⟩ (fun r S1 h => ?_)
  have hx1 : ext G G := ext.rf
  refine jB C [(.aload_n 2, 1, 0)] 463 [(3, .int x3), (2, .ref (b + mm)), (1, .ref (b + x)), (0, .ref sb)] [.ref (b + mm), .int r] (by decide +kernel) rfl rfl ?_
  refine jXa C (it := it) 468 1 (by decide) (by decide +kernel) (by decide +kernel) rfl hX hsb hbb hi hl hL ?_
  refine jXa C (it := it) 473 2 (by decide) (by decide +kernel) (by decide +kernel) rfl hX hsb hbb hi hl hL ?_
  refine jXa C (it := it) 478 3 (by decide) (by decide +kernel) (by decide +kernel) rfl hX hsb hbb hi hl hL ?_
  refine jXa C (it := it) 483 4 (by decide) (by decide +kernel) (by decide +kernel) rfl hX hsb hbb hi hl hL ?_
  refine jXa C (it := it) 488 5 (by decide) (by decide +kernel) (by decide +kernel) rfl hX hsb hbb hi hl hL ?_
  refine jcV_I C 491 (rest := [.int r]) (ok_X11_feed tm h) (by decide +kernel : decode cL_law 488 = .ok (.invokevirtual 48, 3)) rfl wd_1496 wd_1497 wd_1498 wd_12 wd_1499 ⟨rfl, rfl⟩ hd_X11_feed ⟨Nat.le_of_ble_eq_true rfl, Nat.le_of_ble_eq_true rfl⟩ tm kX11 (by decide) rfl rfl rfl (Nat.le_of_ble_eq_true rfl) ⟨by show _ ≤ 600000; omega, by show _ ≤ 7302250; omega⟩ (fun r2 S2 h => ?_)
  refine jIcmp_eq C 494 1276 (by decide +kernel : decode cL_law 491 = .ok (.if_icmp .eq 785, 3)) rfl rfl (fun _ => ?_) (fun c1 => absurd h.1 c1)
  exact jWid (by omega) (by omega) (hK _ _ hx1 h.2)
def lw_8 (G : Gm) (x mm : Nat) (a1 : Int32) (K : Gm → St → Prop) (S : St) : Prop := f_X10_end G x a1 (fun r S1 => f_X11_end G mm a1 (fun r2 S2 => r = r2 ∧ K G S2) S1) S
set_option maxHeartbeats 4000000 in
set_option maxRecDepth 100000 in
theorem jl_8 {p : Program} {l : Launch} {e : Env} {s : State} {m : MethodId} {below : List Frame} {meth : Method} {c : Code} {b : Nat} {D : va_G} {cy : Nat → ClassId} {rt : Option FieldType} {Z : State → Prop} {cells slots : Nat} {G : Gm} {S : St} {sb L it x mm : Nat} {xs : Nat → Int32} {x3 : Int32} {K : Gm → St → Prop} (C : CX p s m #[.ref sb] meth c b D cy cL_law RL 4 rt) (hX : va_X sb L xs s s.heap) (hsb : sb < s.heap.size) (hbb : b = s.heap.size) (hi : x3 = nI (6 * it)) (hl : 6 * it + 6 ≤ L) (hL : L ≤ 3072) (hcc : cells + 8 ≤ 600000) (hss : slots + 1000 ≤ 7302250) (tx : ok G 9 x) (tm : ok G 10 mm) (h : lw_8 G x mm (xs (6 * it + 1)) K S) (hK : ∀ G1 S1, ext G G1 → K G1 S1 → J p l e room_1 s m #[.ref sb] below meth c b D cy 4 Z (cells + 8) (slots + 1000) G1 S1 1276 [(3, .int x3), (2, .ref (b + mm)), (1, .ref (b + x)), (0, .ref sb)] []) : J p l e room_1 s m #[.ref sb] below meth c b D cy 4 Z cells slots G S 496 [(3, .int x3), (2, .ref (b + mm)), (1, .ref (b + x)), (0, .ref sb)] [] := by
  unfold lw_8 at h
  refine jB C [(.aload_n 1, 1, 0)] 497 [(3, .int x3), (2, .ref (b + mm)), (1, .ref (b + x)), (0, .ref sb)] [.ref (b + x)] (by decide +kernel) rfl rfl ?_
  refine jXa C (it := it) 502 1 (by decide) (by decide +kernel) (by decide +kernel) rfl hX hsb hbb hi hl hL ?_
  refine jcV_I C 505 (rest := []) (ok_X10_end tx h) (by decide +kernel : decode cL_law 502 = .ok (.invokevirtual 49, 3)) rfl wd_557 wd_558 wd_559 wd_1 wd_560 ⟨rfl, rfl⟩ hd_X10_end ⟨Nat.le_of_ble_eq_true rfl, Nat.le_of_ble_eq_true rfl⟩ tx kX10 (by decide) rfl rfl rfl (Nat.le_of_ble_eq_true rfl) ⟨by show _ ≤ 600000; omega, by show _ ≤ 7302250; omega⟩ (fun r S1 h => ?_)
  have hx1 : ext G G := ext.rf
  refine jB C [(.aload_n 2, 1, 0)] 506 [(3, .int x3), (2, .ref (b + mm)), (1, .ref (b + x)), (0, .ref sb)] [.ref (b + mm), .int r] (by decide +kernel) rfl rfl ?_
  refine jXa C (it := it) 511 1 (by decide) (by decide +kernel) (by decide +kernel) rfl hX hsb hbb hi hl hL ?_
  refine jcV_I C 514 (rest := [.int r]) (ok_X11_end tm h) (by decide +kernel : decode cL_law 511 = .ok (.invokevirtual 53, 3)) rfl wd_1504 wd_1505 wd_1506 wd_12 wd_1507 ⟨rfl, rfl⟩ hd_X11_end ⟨Nat.le_of_ble_eq_true rfl, Nat.le_of_ble_eq_true rfl⟩ tm kX11 (by decide) rfl rfl rfl (Nat.le_of_ble_eq_true rfl) ⟨by show _ ≤ 600000; omega, by show _ ≤ 7302250; omega⟩ (fun r2 S2 h => ?_)
  refine jIcmp_eq C 517 1276 (by decide +kernel : decode cL_law 514 = .ok (.if_icmp .eq 762, 3)) rfl rfl (fun _ => ?_) (fun c1 => absurd h.1 c1)
  exact jWid (by omega) (by omega) (hK _ _ hx1 h.2)
def lw_9 (G : Gm) (x mm : Nat) (K : Gm → St → Prop) (S : St) : Prop := f_X10_row G x (fun r S1 => f_X11_row G mm (fun r2 S2 => r = r2 ∧ K G S2) S1) S
set_option maxHeartbeats 4000000 in
set_option maxRecDepth 100000 in
theorem jl_9 {p : Program} {l : Launch} {e : Env} {s : State} {m : MethodId} {below : List Frame} {meth : Method} {c : Code} {b : Nat} {D : va_G} {cy : Nat → ClassId} {rt : Option FieldType} {Z : State → Prop} {cells slots : Nat} {G : Gm} {S : St} {sb L it x mm : Nat} {xs : Nat → Int32} {x3 : Int32} {K : Gm → St → Prop} (C : CX p s m #[.ref sb] meth c b D cy cL_law RL 4 rt) (hX : va_X sb L xs s s.heap) (hsb : sb < s.heap.size) (hbb : b = s.heap.size) (hi : x3 = nI (6 * it)) (hl : 6 * it + 6 ≤ L) (hL : L ≤ 3072) (hcc : cells + 8 ≤ 600000) (hss : slots + 1000 ≤ 7302250) (tx : ok G 9 x) (tm : ok G 10 mm) (h : lw_9 G x mm K S) (hK : ∀ G1 S1, ext G G1 → K G1 S1 → J p l e room_1 s m #[.ref sb] below meth c b D cy 4 Z (cells + 8) (slots + 1000) G1 S1 1276 [(3, .int x3), (2, .ref (b + mm)), (1, .ref (b + x)), (0, .ref sb)] []) : J p l e room_1 s m #[.ref sb] below meth c b D cy 4 Z cells slots G S 519 [(3, .int x3), (2, .ref (b + mm)), (1, .ref (b + x)), (0, .ref sb)] [] := by
  unfold lw_9 at h
  refine jB C [(.aload_n 1, 1, 0)] 520 [(3, .int x3), (2, .ref (b + mm)), (1, .ref (b + x)), (0, .ref sb)] [.ref (b + x)] (by decide +kernel) rfl rfl ?_
  refine jcV_I C 523 (rest := []) (ok_X10_row tx h) (by decide +kernel : decode cL_law 520 = .ok (.invokevirtual 54, 3)) rfl wd_561 wd_562 wd_563 wd_1 wd_564 ⟨rfl, rfl⟩ hd_X10_row ⟨Nat.le_of_ble_eq_true rfl, Nat.le_of_ble_eq_true rfl⟩ tx kX10 (by decide) rfl rfl rfl (Nat.le_of_ble_eq_true rfl) ⟨by show _ ≤ 600000; omega, by show _ ≤ 7302250; omega⟩ (fun r S1 h => ?_)
  have hx1 : ext G G := ext.rf
  refine jB C [(.aload_n 2, 1, 0)] 524 [(3, .int x3), (2, .ref (b + mm)), (1, .ref (b + x)), (0, .ref sb)] [.ref (b + mm), .int r] (by decide +kernel) rfl rfl ?_
  refine jcV_I C 527 (rest := [.int r]) (ok_X11_row tm h) (by decide +kernel : decode cL_law 524 = .ok (.invokevirtual 57, 3)) rfl wd_1488 wd_1489 wd_1490 wd_12 wd_1491 ⟨rfl, rfl⟩ hd_X11_row ⟨Nat.le_of_ble_eq_true rfl, Nat.le_of_ble_eq_true rfl⟩ tm kX11 (by decide) rfl rfl rfl (Nat.le_of_ble_eq_true rfl) ⟨by show _ ≤ 600000; omega, by show _ ≤ 7302250; omega⟩ (fun r2 S2 h => ?_)
  refine jIcmp_eq C 530 1276 (by decide +kernel : decode cL_law 527 = .ok (.if_icmp .eq 749, 3)) rfl rfl (fun _ => ?_) (fun c1 => absurd h.1 c1)
  exact jWid (by omega) (by omega) (hK _ _ hx1 h.2)
def lw_10 (G : Gm) (x mm : Nat) (K : Gm → St → Prop) (S : St) : Prop := f_X10_smears G x (fun r S1 => f_X11_smears G mm (fun r2 S2 => r = r2 ∧ K G S2) S1) S
set_option maxHeartbeats 4000000 in
set_option maxRecDepth 100000 in
theorem jl_10 {p : Program} {l : Launch} {e : Env} {s : State} {m : MethodId} {below : List Frame} {meth : Method} {c : Code} {b : Nat} {D : va_G} {cy : Nat → ClassId} {rt : Option FieldType} {Z : State → Prop} {cells slots : Nat} {G : Gm} {S : St} {sb L it x mm : Nat} {xs : Nat → Int32} {x3 : Int32} {K : Gm → St → Prop} (C : CX p s m #[.ref sb] meth c b D cy cL_law RL 4 rt) (hX : va_X sb L xs s s.heap) (hsb : sb < s.heap.size) (hbb : b = s.heap.size) (hi : x3 = nI (6 * it)) (hl : 6 * it + 6 ≤ L) (hL : L ≤ 3072) (hcc : cells + 8 ≤ 600000) (hss : slots + 1000 ≤ 7302250) (tx : ok G 9 x) (tm : ok G 10 mm) (h : lw_10 G x mm K S) (hK : ∀ G1 S1, ext G G1 → K G1 S1 → J p l e room_1 s m #[.ref sb] below meth c b D cy 4 Z (cells + 8) (slots + 1000) G1 S1 1276 [(3, .int x3), (2, .ref (b + mm)), (1, .ref (b + x)), (0, .ref sb)] []) : J p l e room_1 s m #[.ref sb] below meth c b D cy 4 Z cells slots G S 532 [(3, .int x3), (2, .ref (b + mm)), (1, .ref (b + x)), (0, .ref sb)] [] := by
  unfold lw_10 at h
  refine jB C [(.aload_n 1, 1, 0)] 533 [(3, .int x3), (2, .ref (b + mm)), (1, .ref (b + x)), (0, .ref sb)] [.ref (b + x)] (by decide +kernel) rfl rfl ?_
  refine jcV_I C 536 (rest := []) (ok_X10_smears tx h) (by decide +kernel : decode cL_law 533 = .ok (.invokevirtual 58, 3)) rfl wd_579 wd_580 wd_581 wd_1 wd_582 ⟨rfl, rfl⟩ hd_X10_smears ⟨Nat.le_of_ble_eq_true rfl, Nat.le_of_ble_eq_true rfl⟩ tx kX10 (by decide) rfl rfl rfl (Nat.le_of_ble_eq_true rfl) ⟨by show _ ≤ 600000; omega, by show _ ≤ 7302250; omega⟩ (fun r S1 h => ?_)
  have hx1 : ext G G := ext.rf
  refine jB C [(.aload_n 2, 1, 0)] 537 [(3, .int x3), (2, .ref (b + mm)), (1, .ref (b + x)), (0, .ref sb)] [.ref (b + mm), .int r] (by decide +kernel) rfl rfl ?_
  refine jcV_I C 540 (rest := [.int r]) (ok_X11_smears tm h) (by decide +kernel : decode cL_law 537 = .ok (.invokevirtual 61, 3)) rfl wd_1492 wd_1493 wd_1494 wd_12 wd_1495 ⟨rfl, rfl⟩ hd_X11_smears ⟨Nat.le_of_ble_eq_true rfl, Nat.le_of_ble_eq_true rfl⟩ tm kX11 (by decide) rfl rfl rfl (Nat.le_of_ble_eq_true rfl) ⟨by show _ ≤ 600000; omega, by show _ ≤ 7302250; omega⟩ (fun r2 S2 h => ?_)
  refine jIcmp_eq C 543 1276 (by decide +kernel : decode cL_law 540 = .ok (.if_icmp .eq 736, 3)) rfl rfl (fun _ => ?_) (fun c1 => absurd h.1 c1)
  exact jWid (by omega) (by omega) (hK _ _ hx1 h.2)
def lw_11 (G : Gm) (x mm : Nat) (K : Gm → St → Prop) (S : St) : Prop := f_X10_law G x (fun r G1 S1 => f_X11_law G1 mm (fun r2 S2 => r = r2 ∧ K G1 S2) S1) S
set_option maxHeartbeats 4000000 in
set_option maxRecDepth 100000 in
theorem jl_11 {p : Program} {l : Launch} {e : Env} {s : State} {m : MethodId} {below : List Frame} {meth : Method} {c : Code} {b : Nat} {D : va_G} {cy : Nat → ClassId} {rt : Option FieldType} {Z : State → Prop} {cells slots : Nat} {G : Gm} {S : St} {sb L it x mm : Nat} {xs : Nat → Int32} {x3 : Int32} {K : Gm → St → Prop} (C : CX p s m #[.ref sb] meth c b D cy cL_law RL 4 rt) (hX : va_X sb L xs s s.heap) (hsb : sb < s.heap.size) (hbb : b = s.heap.size) (hi : x3 = nI (6 * it)) (hl : 6 * it + 6 ≤ L) (hL : L ≤ 3072) (hcc : cells + 8 ≤ 600000) (hss : slots + 1000 ≤ 7302250) (tx : ok G 9 x) (tm : ok G 10 mm) (h : lw_11 G x mm K S) (hK : ∀ G1 S1, ext G G1 → K G1 S1 → J p l e room_1 s m #[.ref sb] below meth c b D cy 4 Z (cells + 8) (slots + 1000) G1 S1 1276 [(3, .int x3), (2, .ref (b + mm)), (1, .ref (b + x)), (0, .ref sb)] []) : J p l e room_1 s m #[.ref sb] below meth c b D cy 4 Z cells slots G S 545 [(3, .int x3), (2, .ref (b + mm)), (1, .ref (b + x)), (0, .ref sb)] [] := by
  unfold lw_11 at h
  refine jB C [(.aload_n 1, 1, 0)] 546 [(3, .int x3), (2, .ref (b + mm)), (1, .ref (b + x)), (0, .ref sb)] [.ref (b + x)] (by decide +kernel) rfl rfl ?_
  refine jCallV_I C 549 (rest := []) (ok_X10_law tx h) (by decide +kernel : decode cL_law 546 = .ok (.invokevirtual 62, 3)) rfl wd_583 wd_584 wd_585 wd_1 wd_586 ⟨rfl, rfl⟩ hd_X10_law ⟨Nat.le_of_ble_eq_true rfl, Nat.le_of_ble_eq_true rfl⟩ tx kX10 (by decide) rfl rfl rfl (Nat.le_of_ble_eq_true rfl) ⟨by show _ ≤ 600000; omega, by show _ ≤ 7302250; omega⟩ (fun r G1 S1 h => ?_)
  obtain ⟨hx1, h⟩ := h
  have tm := hx1.ok tm
  refine jB C [(.aload_n 2, 1, 0)] 550 [(3, .int x3), (2, .ref (b + mm)), (1, .ref (b + x)), (0, .ref sb)] [.ref (b + mm), .int r] (by decide +kernel) rfl rfl ?_
  refine jcV_I C 553 (rest := [.int r]) (ok_X11_law tm h) (by decide +kernel : decode cL_law 550 = .ok (.invokevirtual 65, 3)) rfl wd_1512 wd_1513 wd_1514 wd_12 wd_1515 ⟨rfl, rfl⟩ hd_X11_law ⟨Nat.le_of_ble_eq_true rfl, Nat.le_of_ble_eq_true rfl⟩ tm kX11 (by decide) rfl rfl rfl (Nat.le_of_ble_eq_true rfl) ⟨by show _ ≤ 600000; omega, by show _ ≤ 7302250; omega⟩ (fun r2 S2 h => ?_)
  refine jIcmp_eq C 556 1276 (by decide +kernel : decode cL_law 553 = .ok (.if_icmp .eq 723, 3)) rfl rfl (fun _ => ?_) (fun c1 => absurd h.1 c1)
  exact jWid (by omega) (by omega) (hK _ _ hx1 h.2)
def lw_12 (G : Gm) (x mm : Nat) (K : Gm → St → Prop) (S : St) : Prop := f_X10_orders G x (fun r S1 => f_X11_orders G mm (fun r2 S2 => r = r2 ∧ K G S2) S1) S
set_option maxHeartbeats 4000000 in
set_option maxRecDepth 100000 in
theorem jl_12 {p : Program} {l : Launch} {e : Env} {s : State} {m : MethodId} {below : List Frame} {meth : Method} {c : Code} {b : Nat} {D : va_G} {cy : Nat → ClassId} {rt : Option FieldType} {Z : State → Prop} {cells slots : Nat} {G : Gm} {S : St} {sb L it x mm : Nat} {xs : Nat → Int32} {x3 : Int32} {K : Gm → St → Prop} (C : CX p s m #[.ref sb] meth c b D cy cL_law RL 4 rt) (hX : va_X sb L xs s s.heap) (hsb : sb < s.heap.size) (hbb : b = s.heap.size) (hi : x3 = nI (6 * it)) (hl : 6 * it + 6 ≤ L) (hL : L ≤ 3072) (hcc : cells + 8 ≤ 600000) (hss : slots + 1000 ≤ 7302250) (tx : ok G 9 x) (tm : ok G 10 mm) (h : lw_12 G x mm K S) (hK : ∀ G1 S1, ext G G1 → K G1 S1 → J p l e room_1 s m #[.ref sb] below meth c b D cy 4 Z (cells + 8) (slots + 1000) G1 S1 1276 [(3, .int x3), (2, .ref (b + mm)), (1, .ref (b + x)), (0, .ref sb)] []) : J p l e room_1 s m #[.ref sb] below meth c b D cy 4 Z cells slots G S 558 [(3, .int x3), (2, .ref (b + mm)), (1, .ref (b + x)), (0, .ref sb)] [] := by
  unfold lw_12 at h
  refine jB C [(.aload_n 1, 1, 0)] 559 [(3, .int x3), (2, .ref (b + mm)), (1, .ref (b + x)), (0, .ref sb)] [.ref (b + x)] (by decide +kernel) rfl rfl ?_
  refine jcV_I C 562 (rest := []) (ok_X10_orders tx h) (by decide +kernel : decode cL_law 559 = .ok (.invokevirtual 66, 3)) rfl wd_772 wd_773 wd_774 wd_1 wd_775 ⟨rfl, rfl⟩ hd_X10_orders ⟨Nat.le_of_ble_eq_true rfl, Nat.le_of_ble_eq_true rfl⟩ tx kX10 (by decide) rfl rfl rfl (Nat.le_of_ble_eq_true rfl) ⟨by show _ ≤ 600000; omega, by show _ ≤ 7302250; omega⟩ (fun r S1 h => ?_)
  have hx1 : ext G G := ext.rf
  refine jB C [(.aload_n 2, 1, 0)] 563 [(3, .int x3), (2, .ref (b + mm)), (1, .ref (b + x)), (0, .ref sb)] [.ref (b + mm), .int r] (by decide +kernel) rfl rfl ?_
  refine jcV_I C 566 (rest := [.int r]) (ok_X11_orders tm h) (by decide +kernel : decode cL_law 563 = .ok (.invokevirtual 69, 3)) rfl wd_1791 wd_1792 wd_1793 wd_12 wd_1794 ⟨rfl, rfl⟩ hd_X11_orders ⟨Nat.le_of_ble_eq_true rfl, Nat.le_of_ble_eq_true rfl⟩ tm kX11 (by decide) rfl rfl rfl (Nat.le_of_ble_eq_true rfl) ⟨by show _ ≤ 600000; omega, by show _ ≤ 7302250; omega⟩ (fun r2 S2 h => ?_)
  refine jIcmp_eq C 569 1276 (by decide +kernel : decode cL_law 566 = .ok (.if_icmp .eq 710, 3)) rfl rfl (fun _ => ?_) (fun c1 => absurd h.1 c1)
  exact jWid (by omega) (by omega) (hK _ _ hx1 h.2)
def lw_13 (G : Gm) (x mm : Nat) (K : Gm → St → Prop) (S : St) : Prop := f_X10_fault G x (fun r S1 => f_X11_fault G mm (fun r2 S2 => r = r2 ∧ K G S2) S1) S
set_option maxHeartbeats 4000000 in
set_option maxRecDepth 100000 in
theorem jl_13 {p : Program} {l : Launch} {e : Env} {s : State} {m : MethodId} {below : List Frame} {meth : Method} {c : Code} {b : Nat} {D : va_G} {cy : Nat → ClassId} {rt : Option FieldType} {Z : State → Prop} {cells slots : Nat} {G : Gm} {S : St} {sb L it x mm : Nat} {xs : Nat → Int32} {x3 : Int32} {K : Gm → St → Prop} (C : CX p s m #[.ref sb] meth c b D cy cL_law RL 4 rt) (hX : va_X sb L xs s s.heap) (hsb : sb < s.heap.size) (hbb : b = s.heap.size) (hi : x3 = nI (6 * it)) (hl : 6 * it + 6 ≤ L) (hL : L ≤ 3072) (hcc : cells + 8 ≤ 600000) (hss : slots + 1000 ≤ 7302250) (tx : ok G 9 x) (tm : ok G 10 mm) (h : lw_13 G x mm K S) (hK : ∀ G1 S1, ext G G1 → K G1 S1 → J p l e room_1 s m #[.ref sb] below meth c b D cy 4 Z (cells + 8) (slots + 1000) G1 S1 1276 [(3, .int x3), (2, .ref (b + mm)), (1, .ref (b + x)), (0, .ref sb)] []) : J p l e room_1 s m #[.ref sb] below meth c b D cy 4 Z cells slots G S 571 [(3, .int x3), (2, .ref (b + mm)), (1, .ref (b + x)), (0, .ref sb)] [] := by
  unfold lw_13 at h
  refine jB C [(.aload_n 1, 1, 0)] 572 [(3, .int x3), (2, .ref (b + mm)), (1, .ref (b + x)), (0, .ref sb)] [.ref (b + x)] (by decide +kernel) rfl rfl ?_
  refine jcV_I C 575 (rest := []) (ok_X10_fault tx h) (by decide +kernel : decode cL_law 572 = .ok (.invokevirtual 70, 3)) rfl wd_866 wd_867 wd_868 wd_1 wd_869 ⟨rfl, rfl⟩ hd_X10_fault ⟨Nat.le_of_ble_eq_true rfl, Nat.le_of_ble_eq_true rfl⟩ tx kX10 (by decide) rfl rfl rfl (Nat.le_of_ble_eq_true rfl) ⟨by show _ ≤ 600000; omega, by show _ ≤ 7302250; omega⟩ (fun r S1 h => ?_)
  have hx1 : ext G G := ext.rf
  refine jB C [(.aload_n 2, 1, 0)] 576 [(3, .int x3), (2, .ref (b + mm)), (1, .ref (b + x)), (0, .ref sb)] [.ref (b + mm), .int r] (by decide +kernel) rfl rfl ?_
  refine jcV_I C 579 (rest := [.int r]) (ok_X11_fault tm h) (by decide +kernel : decode cL_law 576 = .ok (.invokevirtual 73, 3)) rfl wd_1508 wd_1509 wd_1510 wd_12 wd_1511 ⟨rfl, rfl⟩ hd_X11_fault ⟨Nat.le_of_ble_eq_true rfl, Nat.le_of_ble_eq_true rfl⟩ tm kX11 (by decide) rfl rfl rfl (Nat.le_of_ble_eq_true rfl) ⟨by show _ ≤ 600000; omega, by show _ ≤ 7302250; omega⟩ (fun r2 S2 h => ?_)
  refine jIcmp_eq C 582 1276 (by decide +kernel : decode cL_law 579 = .ok (.if_icmp .eq 697, 3)) rfl rfl (fun _ => ?_) (fun c1 => absurd h.1 c1)
  exact jWid (by omega) (by omega) (hK _ _ hx1 h.2)
def lw_14 (G : Gm) (x mm : Nat) (K : Gm → St → Prop) (S : St) : Prop := f_X10_stopped G x (fun r S1 => f_X11_stopped G mm (fun r2 S2 => r = r2 ∧ K G S2) S1) S
set_option maxHeartbeats 4000000 in
set_option maxRecDepth 100000 in
theorem jl_14 {p : Program} {l : Launch} {e : Env} {s : State} {m : MethodId} {below : List Frame} {meth : Method} {c : Code} {b : Nat} {D : va_G} {cy : Nat → ClassId} {rt : Option FieldType} {Z : State → Prop} {cells slots : Nat} {G : Gm} {S : St} {sb L it x mm : Nat} {xs : Nat → Int32} {x3 : Int32} {K : Gm → St → Prop} (C : CX p s m #[.ref sb] meth c b D cy cL_law RL 4 rt) (hX : va_X sb L xs s s.heap) (hsb : sb < s.heap.size) (hbb : b = s.heap.size) (hi : x3 = nI (6 * it)) (hl : 6 * it + 6 ≤ L) (hL : L ≤ 3072) (hcc : cells + 8 ≤ 600000) (hss : slots + 1000 ≤ 7302250) (tx : ok G 9 x) (tm : ok G 10 mm) (h : lw_14 G x mm K S) (hK : ∀ G1 S1, ext G G1 → K G1 S1 → J p l e room_1 s m #[.ref sb] below meth c b D cy 4 Z (cells + 8) (slots + 1000) G1 S1 1276 [(3, .int x3), (2, .ref (b + mm)), (1, .ref (b + x)), (0, .ref sb)] []) : J p l e room_1 s m #[.ref sb] below meth c b D cy 4 Z cells slots G S 584 [(3, .int x3), (2, .ref (b + mm)), (1, .ref (b + x)), (0, .ref sb)] [] := by
  unfold lw_14 at h
  refine jB C [(.aload_n 1, 1, 0)] 585 [(3, .int x3), (2, .ref (b + mm)), (1, .ref (b + x)), (0, .ref sb)] [.ref (b + x)] (by decide +kernel) rfl rfl ?_
  refine jcV_I C 588 (rest := []) (ok_X10_stopped tx h) (by decide +kernel : decode cL_law 585 = .ok (.invokevirtual 74, 3)) rfl wd_870 wd_871 wd_872 wd_1 wd_873 ⟨rfl, rfl⟩ hd_X10_stopped ⟨Nat.le_of_ble_eq_true rfl, Nat.le_of_ble_eq_true rfl⟩ tx kX10 (by decide) rfl rfl rfl (Nat.le_of_ble_eq_true rfl) ⟨by show _ ≤ 600000; omega, by show _ ≤ 7302250; omega⟩ (fun r S1 h => ?_)
  have hx1 : ext G G := ext.rf
  refine jB C [(.aload_n 2, 1, 0)] 589 [(3, .int x3), (2, .ref (b + mm)), (1, .ref (b + x)), (0, .ref sb)] [.ref (b + mm), .int r] (by decide +kernel) rfl rfl ?_
  refine jcV_I C 592 (rest := [.int r]) (ok_X11_stopped tm h) (by decide +kernel : decode cL_law 589 = .ok (.invokevirtual 77, 3)) rfl wd_1822 wd_1823 wd_1824 wd_12 wd_1825 ⟨rfl, rfl⟩ hd_X11_stopped ⟨Nat.le_of_ble_eq_true rfl, Nat.le_of_ble_eq_true rfl⟩ tm kX11 (by decide) rfl rfl rfl (Nat.le_of_ble_eq_true rfl) ⟨by show _ ≤ 600000; omega, by show _ ≤ 7302250; omega⟩ (fun r2 S2 h => ?_)
  refine jIcmp_eq C 595 1276 (by decide +kernel : decode cL_law 592 = .ok (.if_icmp .eq 684, 3)) rfl rfl (fun _ => ?_) (fun c1 => absurd h.1 c1)
  exact jWid (by omega) (by omega) (hK _ _ hx1 h.2)
def lw_15 (G : Gm) (x mm : Nat) (a1 : Int32) (K : Gm → St → Prop) (S : St) : Prop := f_X10_force G x a1 (fun r S1 => f_X11_force G mm a1 (fun r2 S2 => r = r2 ∧ K G S2) S1) S
set_option maxHeartbeats 4000000 in
set_option maxRecDepth 100000 in
theorem jl_15 {p : Program} {l : Launch} {e : Env} {s : State} {m : MethodId} {below : List Frame} {meth : Method} {c : Code} {b : Nat} {D : va_G} {cy : Nat → ClassId} {rt : Option FieldType} {Z : State → Prop} {cells slots : Nat} {G : Gm} {S : St} {sb L it x mm : Nat} {xs : Nat → Int32} {x3 : Int32} {K : Gm → St → Prop} (C : CX p s m #[.ref sb] meth c b D cy cL_law RL 4 rt) (hX : va_X sb L xs s s.heap) (hsb : sb < s.heap.size) (hbb : b = s.heap.size) (hi : x3 = nI (6 * it)) (hl : 6 * it + 6 ≤ L) (hL : L ≤ 3072) (hcc : cells + 8 ≤ 600000) (hss : slots + 1000 ≤ 7302250) (tx : ok G 9 x) (tm : ok G 10 mm) (h : lw_15 G x mm (xs (6 * it + 1)) K S) (hK : ∀ G1 S1, ext G G1 → K G1 S1 → J p l e room_1 s m #[.ref sb] below meth c b D cy 4 Z (cells + 8) (slots + 1000) G1 S1 1276 [(3, .int x3), (2, .ref (b + mm)), (1, .ref (b + x)), (0, .ref sb)] []) : J p l e room_1 s m #[.ref sb] below meth c b D cy 4 Z cells slots G S 597 [(3, .int x3), (2, .ref (b + mm)), (1, .ref (b + x)), (0, .ref sb)] [] := by
  unfold lw_15 at h
  refine jB C [(.aload_n 1, 1, 0)] 598 [(3, .int x3), (2, .ref (b + mm)), (1, .ref (b + x)), (0, .ref sb)] [.ref (b + x)] (by decide +kernel) rfl rfl ?_
  refine jXa C (it := it) 603 1 (by decide) (by decide +kernel) (by decide +kernel) rfl hX hsb hbb hi hl hL ?_
  refine jcV_I C 606 (rest := []) (ok_X10_force tx h) (by decide +kernel : decode cL_law 603 = .ok (.invokevirtual 78, 3)) rfl wd_874 wd_875 wd_876 wd_1 wd_877 ⟨rfl, rfl⟩ hd_X10_force ⟨Nat.le_of_ble_eq_true rfl, Nat.le_of_ble_eq_true rfl⟩ tx kX10 (by decide) rfl rfl rfl (Nat.le_of_ble_eq_true rfl) ⟨by show _ ≤ 600000; omega, by show _ ≤ 7302250; omega⟩ (fun r S1 h => ?_)
  have hx1 : ext G G := ext.rf
  refine jB C [(.aload_n 2, 1, 0)] 607 [(3, .int x3), (2, .ref (b + mm)), (1, .ref (b + x)), (0, .ref sb)] [.ref (b + mm), .int r] (by decide +kernel) rfl rfl ?_
  refine jXa C (it := it) 612 1 (by decide) (by decide +kernel) (by decide +kernel) rfl hX hsb hbb hi hl hL ?_
  refine jcV_I C 615 (rest := [.int r]) (ok_X11_force tm h) (by decide +kernel : decode cL_law 612 = .ok (.invokevirtual 81, 3)) rfl wd_1630 wd_1631 wd_1632 wd_12 wd_1633 ⟨rfl, rfl⟩ hd_X11_force ⟨Nat.le_of_ble_eq_true rfl, Nat.le_of_ble_eq_true rfl⟩ tm kX11 (by decide) rfl rfl rfl (Nat.le_of_ble_eq_true rfl) ⟨by show _ ≤ 600000; omega, by show _ ≤ 7302250; omega⟩ (fun r2 S2 h => ?_)
  refine jIcmp_eq C 618 1276 (by decide +kernel : decode cL_law 615 = .ok (.if_icmp .eq 661, 3)) rfl rfl (fun _ => ?_) (fun c1 => absurd h.1 c1)
  exact jWid (by omega) (by omega) (hK _ _ hx1 h.2)
def lw_16 (G : Gm) (x mm : Nat) (a1 a2 a3 : Int32) (K : Gm → St → Prop) (S : St) : Prop := f_X10_sin G x a1 a2 a3 (fun r S1 => f_X11_sin G mm a1 a2 a3 (fun r2 S2 => r = r2 ∧ K G S2) S1) S
set_option maxHeartbeats 4000000 in
set_option maxRecDepth 100000 in
theorem jl_16 {p : Program} {l : Launch} {e : Env} {s : State} {m : MethodId} {below : List Frame} {meth : Method} {c : Code} {b : Nat} {D : va_G} {cy : Nat → ClassId} {rt : Option FieldType} {Z : State → Prop} {cells slots : Nat} {G : Gm} {S : St} {sb L it x mm : Nat} {xs : Nat → Int32} {x3 : Int32} {K : Gm → St → Prop} (C : CX p s m #[.ref sb] meth c b D cy cL_law RL 4 rt) (hX : va_X sb L xs s s.heap) (hsb : sb < s.heap.size) (hbb : b = s.heap.size) (hi : x3 = nI (6 * it)) (hl : 6 * it + 6 ≤ L) (hL : L ≤ 3072) (hcc : cells + 8 ≤ 600000) (hss : slots + 1000 ≤ 7302250) (tx : ok G 9 x) (tm : ok G 10 mm) (h : lw_16 G x mm (xs (6 * it + 1)) (xs (6 * it + 2)) (xs (6 * it + 3)) K S) (hK : ∀ G1 S1, ext G G1 → K G1 S1 → J p l e room_1 s m #[.ref sb] below meth c b D cy 4 Z (cells + 8) (slots + 1000) G1 S1 1276 [(3, .int x3), (2, .ref (b + mm)), (1, .ref (b + x)), (0, .ref sb)] []) : J p l e room_1 s m #[.ref sb] below meth c b D cy 4 Z cells slots G S 620 [(3, .int x3), (2, .ref (b + mm)), (1, .ref (b + x)), (0, .ref sb)] [] := by
  unfold lw_16 at h
  refine jB C [(.aload_n 1, 1, 0)] 621 [(3, .int x3), (2, .ref (b + mm)), (1, .ref (b + x)), (0, .ref sb)] [.ref (b + x)] (by decide +kernel) rfl rfl ?_
  refine jXa C (it := it) 626 1 (by decide) (by decide +kernel) (by decide +kernel) rfl hX hsb hbb hi hl hL ?_
  refine jXa C (it := it) 631 2 (by decide) (by decide +kernel) (by decide +kernel) rfl hX hsb hbb hi hl hL ?_
  refine jXa C (it := it) 636 3 (by decide) (by decide +kernel) (by decide +kernel) rfl hX hsb hbb hi hl hL ?_
  refine jcV_I C 639 (rest := []) (ok_X10_sin tx h) (by decide +kernel : decode cL_law 636 = .ok (.invokevirtual 82, 3)) rfl wd_879 wd_880 wd_881 wd_1 wd_882 ⟨rfl, rfl⟩ hd_X10_sin ⟨Nat.le_of_ble_eq_true rfl, Nat.le_of_ble_eq_true rfl⟩ tx kX10 (by decide) rfl rfl rfl (Nat.le_of_ble_eq_true rfl) ⟨by show _ ≤ 600000; omega, by show _ ≤ 7302250; omega⟩ (fun r S1 h => ?_)
  have hx1 : ext G G := ext.rf
  refine jB C [(.aload_n 2, 1, 0)] 640 [(3, .int x3), (2, .ref (b + mm)), (1, .ref (b + x)), (0, .ref sb)] [.ref (b + mm), .int r] (by decide +kernel) rfl rfl ?_
  refine jXa C (it := it) 645 1 (by decide) (by decide +kernel) (by decide +kernel) rfl hX hsb hbb hi hl hL ?_
  refine jXa C (it := it) 650 2 (by decide) (by decide +kernel) (by decide +kernel) rfl hX hsb hbb hi hl hL ?_
  refine jXa C (it := it) 655 3 (by decide) (by decide +kernel) (by decide +kernel) rfl hX hsb hbb hi hl hL ?_
  refine jcV_I C 658 (rest := [.int r]) (ok_X11_sin tm h) (by decide +kernel : decode cL_law 655 = .ok (.invokevirtual 85, 3)) rfl wd_1638 wd_1639 wd_1640 wd_12 wd_1641 ⟨rfl, rfl⟩ hd_X11_sin ⟨Nat.le_of_ble_eq_true rfl, Nat.le_of_ble_eq_true rfl⟩ tm kX11 (by decide) rfl rfl rfl (Nat.le_of_ble_eq_true rfl) ⟨by show _ ≤ 600000; omega, by show _ ≤ 7302250; omega⟩ (fun r2 S2 h => ?_)
  refine jIcmp_eq C 661 1276 (by decide +kernel : decode cL_law 658 = .ok (.if_icmp .eq 618, 3)) rfl rfl (fun _ => ?_) (fun c1 => absurd h.1 c1)
  exact jWid (by omega) (by omega) (hK _ _ hx1 h.2)
def lw_17 (G : Gm) (x mm : Nat) (a1 : Int32) (K : Gm → St → Prop) (S : St) : Prop := f_X10_grind G x a1 (fun r S1 => f_X11_grind G mm a1 (fun r2 S2 => r = r2 ∧ K G S2) S1) S
set_option maxHeartbeats 4000000 in
set_option maxRecDepth 100000 in
theorem jl_17 {p : Program} {l : Launch} {e : Env} {s : State} {m : MethodId} {below : List Frame} {meth : Method} {c : Code} {b : Nat} {D : va_G} {cy : Nat → ClassId} {rt : Option FieldType} {Z : State → Prop} {cells slots : Nat} {G : Gm} {S : St} {sb L it x mm : Nat} {xs : Nat → Int32} {x3 : Int32} {K : Gm → St → Prop} (C : CX p s m #[.ref sb] meth c b D cy cL_law RL 4 rt) (hX : va_X sb L xs s s.heap) (hsb : sb < s.heap.size) (hbb : b = s.heap.size) (hi : x3 = nI (6 * it)) (hl : 6 * it + 6 ≤ L) (hL : L ≤ 3072) (hcc : cells + 8 ≤ 600000) (hss : slots + 1000 ≤ 7302250) (tx : ok G 9 x) (tm : ok G 10 mm) (h : lw_17 G x mm (xs (6 * it + 1)) K S) (hK : ∀ G1 S1, ext G G1 → K G1 S1 → J p l e room_1 s m #[.ref sb] below meth c b D cy 4 Z (cells + 8) (slots + 1000) G1 S1 1276 [(3, .int x3), (2, .ref (b + mm)), (1, .ref (b + x)), (0, .ref sb)] []) : J p l e room_1 s m #[.ref sb] below meth c b D cy 4 Z cells slots G S 663 [(3, .int x3), (2, .ref (b + mm)), (1, .ref (b + x)), (0, .ref sb)] [] := by
  unfold lw_17 at h
  refine jB C [(.aload_n 1, 1, 0)] 664 [(3, .int x3), (2, .ref (b + mm)), (1, .ref (b + x)), (0, .ref sb)] [.ref (b + x)] (by decide +kernel) rfl rfl ?_
  refine jXa C (it := it) 669 1 (by decide) (by decide +kernel) (by decide +kernel) rfl hX hsb hbb hi hl hL ?_
  refine jcV_I C 672 (rest := []) (ok_X10_grind tx h) (by decide +kernel : decode cL_law 669 = .ok (.invokevirtual 86, 3)) rfl wd_888 wd_889 wd_890 wd_1 wd_891 ⟨rfl, rfl⟩ hd_X10_grind ⟨Nat.le_of_ble_eq_true rfl, Nat.le_of_ble_eq_true rfl⟩ tx kX10 (by decide) rfl rfl rfl (Nat.le_of_ble_eq_true rfl) ⟨by show _ ≤ 600000; omega, by show _ ≤ 7302250; omega⟩ (fun r S1 h => ?_)
  have hx1 : ext G G := ext.rf
  refine jB C [(.aload_n 2, 1, 0)] 673 [(3, .int x3), (2, .ref (b + mm)), (1, .ref (b + x)), (0, .ref sb)] [.ref (b + mm), .int r] (by decide +kernel) rfl rfl ?_
  refine jXa C (it := it) 678 1 (by decide) (by decide +kernel) (by decide +kernel) rfl hX hsb hbb hi hl hL ?_
  refine jcV_I C 681 (rest := [.int r]) (ok_X11_grind tm h) (by decide +kernel : decode cL_law 678 = .ok (.invokevirtual 89, 3)) rfl wd_1655 wd_1656 wd_1657 wd_12 wd_1658 ⟨rfl, rfl⟩ hd_X11_grind ⟨Nat.le_of_ble_eq_true rfl, Nat.le_of_ble_eq_true rfl⟩ tm kX11 (by decide) rfl rfl rfl (Nat.le_of_ble_eq_true rfl) ⟨by show _ ≤ 600000; omega, by show _ ≤ 7302250; omega⟩ (fun r2 S2 h => ?_)
  refine jIcmp_eq C 684 1276 (by decide +kernel : decode cL_law 681 = .ok (.if_icmp .eq 595, 3)) rfl rfl (fun _ => ?_) (fun c1 => absurd h.1 c1)
  exact jWid (by omega) (by omega) (hK _ _ hx1 h.2)
def lw_18 (G : Gm) (x mm : Nat) (a1 a2 : Int32) (K : Gm → St → Prop) (S : St) : Prop := f_X10_swap G x a1 a2 (fun r S1 => f_X11_swap G mm a1 a2 (fun r2 S2 => r = r2 ∧ K G S2) S1) S
set_option maxHeartbeats 4000000 in
set_option maxRecDepth 100000 in
theorem jl_18 {p : Program} {l : Launch} {e : Env} {s : State} {m : MethodId} {below : List Frame} {meth : Method} {c : Code} {b : Nat} {D : va_G} {cy : Nat → ClassId} {rt : Option FieldType} {Z : State → Prop} {cells slots : Nat} {G : Gm} {S : St} {sb L it x mm : Nat} {xs : Nat → Int32} {x3 : Int32} {K : Gm → St → Prop} (C : CX p s m #[.ref sb] meth c b D cy cL_law RL 4 rt) (hX : va_X sb L xs s s.heap) (hsb : sb < s.heap.size) (hbb : b = s.heap.size) (hi : x3 = nI (6 * it)) (hl : 6 * it + 6 ≤ L) (hL : L ≤ 3072) (hcc : cells + 8 ≤ 600000) (hss : slots + 1000 ≤ 7302250) (tx : ok G 9 x) (tm : ok G 10 mm) (h : lw_18 G x mm (xs (6 * it + 1)) (xs (6 * it + 2)) K S) (hK : ∀ G1 S1, ext G G1 → K G1 S1 → J p l e room_1 s m #[.ref sb] below meth c b D cy 4 Z (cells + 8) (slots + 1000) G1 S1 1276 [(3, .int x3), (2, .ref (b + mm)), (1, .ref (b + x)), (0, .ref sb)] []) : J p l e room_1 s m #[.ref sb] below meth c b D cy 4 Z cells slots G S 686 [(3, .int x3), (2, .ref (b + mm)), (1, .ref (b + x)), (0, .ref sb)] [] := by
  unfold lw_18 at h
  refine jB C [(.aload_n 1, 1, 0)] 687 [(3, .int x3), (2, .ref (b + mm)), (1, .ref (b + x)), (0, .ref sb)] [.ref (b + x)] (by decide +kernel) rfl rfl ?_
  refine jXa C (it := it) 692 1 (by decide) (by decide +kernel) (by decide +kernel) rfl hX hsb hbb hi hl hL ?_
  refine jXa C (it := it) 697 2 (by decide) (by decide +kernel) (by decide +kernel) rfl hX hsb hbb hi hl hL ?_
  refine jcV_I C 700 (rest := []) (ok_X10_swap tx h) (by decide +kernel : decode cL_law 697 = .ok (.invokevirtual 90, 3)) rfl wd_892 wd_893 wd_894 wd_1 wd_895 ⟨rfl, rfl⟩ hd_X10_swap ⟨Nat.le_of_ble_eq_true rfl, Nat.le_of_ble_eq_true rfl⟩ tx kX10 (by decide) rfl rfl rfl (Nat.le_of_ble_eq_true rfl) ⟨by show _ ≤ 600000; omega, by show _ ≤ 7302250; omega⟩ (fun r S1 h => ?_)
  have hx1 : ext G G := ext.rf
  refine jB C [(.aload_n 2, 1, 0)] 701 [(3, .int x3), (2, .ref (b + mm)), (1, .ref (b + x)), (0, .ref sb)] [.ref (b + mm), .int r] (by decide +kernel) rfl rfl ?_
  refine jXa C (it := it) 706 1 (by decide) (by decide +kernel) (by decide +kernel) rfl hX hsb hbb hi hl hL ?_
  refine jXa C (it := it) 711 2 (by decide) (by decide +kernel) (by decide +kernel) rfl hX hsb hbb hi hl hL ?_
  refine jcV_I C 714 (rest := [.int r]) (ok_X11_swap tm h) (by decide +kernel : decode cL_law 711 = .ok (.invokevirtual 93, 3)) rfl wd_1671 wd_1672 wd_1673 wd_12 wd_1674 ⟨rfl, rfl⟩ hd_X11_swap ⟨Nat.le_of_ble_eq_true rfl, Nat.le_of_ble_eq_true rfl⟩ tm kX11 (by decide) rfl rfl rfl (Nat.le_of_ble_eq_true rfl) ⟨by show _ ≤ 600000; omega, by show _ ≤ 7302250; omega⟩ (fun r2 S2 h => ?_)
  refine jIcmp_eq C 717 1276 (by decide +kernel : decode cL_law 714 = .ok (.if_icmp .eq 562, 3)) rfl rfl (fun _ => ?_) (fun c1 => absurd h.1 c1)
  exact jWid (by omega) (by omega) (hK _ _ hx1 h.2)
def lw_19 (G : Gm) (x mm : Nat) (a1 : Int32) (K : Gm → St → Prop) (S : St) : Prop := f_X10_cloth G x a1 (fun r S1 => f_X11_cloth G mm a1 (fun r2 S2 => r = r2 ∧ K G S2) S1) S
set_option maxHeartbeats 4000000 in
set_option maxRecDepth 100000 in
theorem jl_19 {p : Program} {l : Launch} {e : Env} {s : State} {m : MethodId} {below : List Frame} {meth : Method} {c : Code} {b : Nat} {D : va_G} {cy : Nat → ClassId} {rt : Option FieldType} {Z : State → Prop} {cells slots : Nat} {G : Gm} {S : St} {sb L it x mm : Nat} {xs : Nat → Int32} {x3 : Int32} {K : Gm → St → Prop} (C : CX p s m #[.ref sb] meth c b D cy cL_law RL 4 rt) (hX : va_X sb L xs s s.heap) (hsb : sb < s.heap.size) (hbb : b = s.heap.size) (hi : x3 = nI (6 * it)) (hl : 6 * it + 6 ≤ L) (hL : L ≤ 3072) (hcc : cells + 8 ≤ 600000) (hss : slots + 1000 ≤ 7302250) (tx : ok G 9 x) (tm : ok G 10 mm) (h : lw_19 G x mm (xs (6 * it + 1)) K S) (hK : ∀ G1 S1, ext G G1 → K G1 S1 → J p l e room_1 s m #[.ref sb] below meth c b D cy 4 Z (cells + 8) (slots + 1000) G1 S1 1276 [(3, .int x3), (2, .ref (b + mm)), (1, .ref (b + x)), (0, .ref sb)] []) : J p l e room_1 s m #[.ref sb] below meth c b D cy 4 Z cells slots G S 719 [(3, .int x3), (2, .ref (b + mm)), (1, .ref (b + x)), (0, .ref sb)] [] := by
  unfold lw_19 at h
  refine jB C [(.aload_n 1, 1, 0)] 720 [(3, .int x3), (2, .ref (b + mm)), (1, .ref (b + x)), (0, .ref sb)] [.ref (b + x)] (by decide +kernel) rfl rfl ?_
  refine jXa C (it := it) 725 1 (by decide) (by decide +kernel) (by decide +kernel) rfl hX hsb hbb hi hl hL ?_
  refine jcV_I C 728 (rest := []) (ok_X10_cloth tx h) (by decide +kernel : decode cL_law 725 = .ok (.invokevirtual 94, 3)) rfl wd_896 wd_897 wd_898 wd_1 wd_899 ⟨rfl, rfl⟩ hd_X10_cloth ⟨Nat.le_of_ble_eq_true rfl, Nat.le_of_ble_eq_true rfl⟩ tx kX10 (by decide) rfl rfl rfl (Nat.le_of_ble_eq_true rfl) ⟨by show _ ≤ 600000; omega, by show _ ≤ 7302250; omega⟩ (fun r S1 h => ?_)
  have hx1 : ext G G := ext.rf
  refine jB C [(.aload_n 2, 1, 0)] 729 [(3, .int x3), (2, .ref (b + mm)), (1, .ref (b + x)), (0, .ref sb)] [.ref (b + mm), .int r] (by decide +kernel) rfl rfl ?_
  refine jXa C (it := it) 734 1 (by decide) (by decide +kernel) (by decide +kernel) rfl hX hsb hbb hi hl hL ?_
  refine jcV_I C 737 (rest := [.int r]) (ok_X11_cloth tm h) (by decide +kernel : decode cL_law 734 = .ok (.invokevirtual 97, 3)) rfl wd_1683 wd_1684 wd_1685 wd_12 wd_1686 ⟨rfl, rfl⟩ hd_X11_cloth ⟨Nat.le_of_ble_eq_true rfl, Nat.le_of_ble_eq_true rfl⟩ tm kX11 (by decide) rfl rfl rfl (Nat.le_of_ble_eq_true rfl) ⟨by show _ ≤ 600000; omega, by show _ ≤ 7302250; omega⟩ (fun r2 S2 h => ?_)
  refine jIcmp_eq C 740 1276 (by decide +kernel : decode cL_law 737 = .ok (.if_icmp .eq 539, 3)) rfl rfl (fun _ => ?_) (fun c1 => absurd h.1 c1)
  exact jWid (by omega) (by omega) (hK _ _ hx1 h.2)
def lw_20 (G : Gm) (x mm : Nat) (K : Gm → St → Prop) (S : St) : Prop := f_X10_pass G x (fun r S1 => f_X11_pass G mm (fun r2 S2 => r = r2 ∧ K G S2) S1) S
set_option maxHeartbeats 4000000 in
set_option maxRecDepth 100000 in
theorem jl_20 {p : Program} {l : Launch} {e : Env} {s : State} {m : MethodId} {below : List Frame} {meth : Method} {c : Code} {b : Nat} {D : va_G} {cy : Nat → ClassId} {rt : Option FieldType} {Z : State → Prop} {cells slots : Nat} {G : Gm} {S : St} {sb L it x mm : Nat} {xs : Nat → Int32} {x3 : Int32} {K : Gm → St → Prop} (C : CX p s m #[.ref sb] meth c b D cy cL_law RL 4 rt) (hX : va_X sb L xs s s.heap) (hsb : sb < s.heap.size) (hbb : b = s.heap.size) (hi : x3 = nI (6 * it)) (hl : 6 * it + 6 ≤ L) (hL : L ≤ 3072) (hcc : cells + 8 ≤ 600000) (hss : slots + 1000 ≤ 7302250) (tx : ok G 9 x) (tm : ok G 10 mm) (h : lw_20 G x mm K S) (hK : ∀ G1 S1, ext G G1 → K G1 S1 → J p l e room_1 s m #[.ref sb] below meth c b D cy 4 Z (cells + 8) (slots + 1000) G1 S1 1276 [(3, .int x3), (2, .ref (b + mm)), (1, .ref (b + x)), (0, .ref sb)] []) : J p l e room_1 s m #[.ref sb] below meth c b D cy 4 Z cells slots G S 742 [(3, .int x3), (2, .ref (b + mm)), (1, .ref (b + x)), (0, .ref sb)] [] := by
  unfold lw_20 at h
  refine jB C [(.aload_n 1, 1, 0)] 743 [(3, .int x3), (2, .ref (b + mm)), (1, .ref (b + x)), (0, .ref sb)] [.ref (b + x)] (by decide +kernel) rfl rfl ?_
  refine jcV_I C 746 (rest := []) (ok_X10_pass tx h) (by decide +kernel : decode cL_law 743 = .ok (.invokevirtual 98, 3)) rfl wd_900 wd_901 wd_902 wd_1 wd_903 ⟨rfl, rfl⟩ hd_X10_pass ⟨Nat.le_of_ble_eq_true rfl, Nat.le_of_ble_eq_true rfl⟩ tx kX10 (by decide) rfl rfl rfl (Nat.le_of_ble_eq_true rfl) ⟨by show _ ≤ 600000; omega, by show _ ≤ 7302250; omega⟩ (fun r S1 h => ?_)
  have hx1 : ext G G := ext.rf
  refine jB C [(.aload_n 2, 1, 0)] 747 [(3, .int x3), (2, .ref (b + mm)), (1, .ref (b + x)), (0, .ref sb)] [.ref (b + mm), .int r] (by decide +kernel) rfl rfl ?_
  refine jcV_I C 750 (rest := [.int r]) (ok_X11_pass tm h) (by decide +kernel : decode cL_law 747 = .ok (.invokevirtual 101, 3)) rfl wd_1691 wd_1692 wd_1693 wd_12 wd_1694 ⟨rfl, rfl⟩ hd_X11_pass ⟨Nat.le_of_ble_eq_true rfl, Nat.le_of_ble_eq_true rfl⟩ tm kX11 (by decide) rfl rfl rfl (Nat.le_of_ble_eq_true rfl) ⟨by show _ ≤ 600000; omega, by show _ ≤ 7302250; omega⟩ (fun r2 S2 h => ?_)
  refine jIcmp_eq C 753 1276 (by decide +kernel : decode cL_law 750 = .ok (.if_icmp .eq 526, 3)) rfl rfl (fun _ => ?_) (fun c1 => absurd h.1 c1)
  exact jWid (by omega) (by omega) (hK _ _ hx1 h.2)
def lw_21 (G : Gm) (x mm : Nat) (K : Gm → St → Prop) (S : St) : Prop := f_X10_undo G x (fun r S1 => f_X11_undo G mm (fun r2 S2 => r = r2 ∧ K G S2) S1) S
set_option maxHeartbeats 4000000 in
set_option maxRecDepth 100000 in
theorem jl_21 {p : Program} {l : Launch} {e : Env} {s : State} {m : MethodId} {below : List Frame} {meth : Method} {c : Code} {b : Nat} {D : va_G} {cy : Nat → ClassId} {rt : Option FieldType} {Z : State → Prop} {cells slots : Nat} {G : Gm} {S : St} {sb L it x mm : Nat} {xs : Nat → Int32} {x3 : Int32} {K : Gm → St → Prop} (C : CX p s m #[.ref sb] meth c b D cy cL_law RL 4 rt) (hX : va_X sb L xs s s.heap) (hsb : sb < s.heap.size) (hbb : b = s.heap.size) (hi : x3 = nI (6 * it)) (hl : 6 * it + 6 ≤ L) (hL : L ≤ 3072) (hcc : cells + 8 ≤ 600000) (hss : slots + 1000 ≤ 7302250) (tx : ok G 9 x) (tm : ok G 10 mm) (h : lw_21 G x mm K S) (hK : ∀ G1 S1, ext G G1 → K G1 S1 → J p l e room_1 s m #[.ref sb] below meth c b D cy 4 Z (cells + 8) (slots + 1000) G1 S1 1276 [(3, .int x3), (2, .ref (b + mm)), (1, .ref (b + x)), (0, .ref sb)] []) : J p l e room_1 s m #[.ref sb] below meth c b D cy 4 Z cells slots G S 755 [(3, .int x3), (2, .ref (b + mm)), (1, .ref (b + x)), (0, .ref sb)] [] := by
  unfold lw_21 at h
  refine jB C [(.aload_n 1, 1, 0)] 756 [(3, .int x3), (2, .ref (b + mm)), (1, .ref (b + x)), (0, .ref sb)] [.ref (b + x)] (by decide +kernel) rfl rfl ?_
  refine jcV_I C 759 (rest := []) (ok_X10_undo tx h) (by decide +kernel : decode cL_law 756 = .ok (.invokevirtual 102, 3)) rfl wd_904 wd_905 wd_906 wd_1 wd_907 ⟨rfl, rfl⟩ hd_X10_undo ⟨Nat.le_of_ble_eq_true rfl, Nat.le_of_ble_eq_true rfl⟩ tx kX10 (by decide) rfl rfl rfl (Nat.le_of_ble_eq_true rfl) ⟨by show _ ≤ 600000; omega, by show _ ≤ 7302250; omega⟩ (fun r S1 h => ?_)
  have hx1 : ext G G := ext.rf
  refine jB C [(.aload_n 2, 1, 0)] 760 [(3, .int x3), (2, .ref (b + mm)), (1, .ref (b + x)), (0, .ref sb)] [.ref (b + mm), .int r] (by decide +kernel) rfl rfl ?_
  refine jcV_I C 763 (rest := [.int r]) (ok_X11_undo tm h) (by decide +kernel : decode cL_law 760 = .ok (.invokevirtual 105, 3)) rfl wd_1336 wd_1337 wd_1338 wd_12 wd_1339 ⟨rfl, rfl⟩ hd_X11_undo ⟨Nat.le_of_ble_eq_true rfl, Nat.le_of_ble_eq_true rfl⟩ tm kX11 (by decide) rfl rfl rfl (Nat.le_of_ble_eq_true rfl) ⟨by show _ ≤ 600000; omega, by show _ ≤ 7302250; omega⟩ (fun r2 S2 h => ?_)
  refine jIcmp_eq C 766 1276 (by decide +kernel : decode cL_law 763 = .ok (.if_icmp .eq 513, 3)) rfl rfl (fun _ => ?_) (fun c1 => absurd h.1 c1)
  exact jWid (by omega) (by omega) (hK _ _ hx1 h.2)
def lw_22 (G : Gm) (x mm : Nat) (a1 a2 : Int32) (K : Gm → St → Prop) (S : St) : Prop := f_X10_cure G x a1 a2 (fun r S1 => f_X11_cure G mm a1 a2 (fun r2 S2 => r = r2 ∧ K G S2) S1) S
set_option maxHeartbeats 4000000 in
set_option maxRecDepth 100000 in
theorem jl_22 {p : Program} {l : Launch} {e : Env} {s : State} {m : MethodId} {below : List Frame} {meth : Method} {c : Code} {b : Nat} {D : va_G} {cy : Nat → ClassId} {rt : Option FieldType} {Z : State → Prop} {cells slots : Nat} {G : Gm} {S : St} {sb L it x mm : Nat} {xs : Nat → Int32} {x3 : Int32} {K : Gm → St → Prop} (C : CX p s m #[.ref sb] meth c b D cy cL_law RL 4 rt) (hX : va_X sb L xs s s.heap) (hsb : sb < s.heap.size) (hbb : b = s.heap.size) (hi : x3 = nI (6 * it)) (hl : 6 * it + 6 ≤ L) (hL : L ≤ 3072) (hcc : cells + 8 ≤ 600000) (hss : slots + 1000 ≤ 7302250) (tx : ok G 9 x) (tm : ok G 10 mm) (h : lw_22 G x mm (xs (6 * it + 1)) (xs (6 * it + 2)) K S) (hK : ∀ G1 S1, ext G G1 → K G1 S1 → J p l e room_1 s m #[.ref sb] below meth c b D cy 4 Z (cells + 8) (slots + 1000) G1 S1 1276 [(3, .int x3), (2, .ref (b + mm)), (1, .ref (b + x)), (0, .ref sb)] []) : J p l e room_1 s m #[.ref sb] below meth c b D cy 4 Z cells slots G S 768 [(3, .int x3), (2, .ref (b + mm)), (1, .ref (b + x)), (0, .ref sb)] [] := by
  unfold lw_22 at h
  refine jB C [(.aload_n 1, 1, 0)] 769 [(3, .int x3), (2, .ref (b + mm)), (1, .ref (b + x)), (0, .ref sb)] [.ref (b + x)] (by decide +kernel) rfl rfl ?_
  refine jXa C (it := it) 774 1 (by decide) (by decide +kernel) (by decide +kernel) rfl hX hsb hbb hi hl hL ?_
  refine jXa C (it := it) 779 2 (by decide) (by decide +kernel) (by decide +kernel) rfl hX hsb hbb hi hl hL ?_
  refine jcV_I C 782 (rest := []) (ok_X10_cure tx h) (by decide +kernel : decode cL_law 779 = .ok (.invokevirtual 106, 3)) rfl wd_914 wd_915 wd_916 wd_1 wd_917 ⟨rfl, rfl⟩ hd_X10_cure ⟨Nat.le_of_ble_eq_true rfl, Nat.le_of_ble_eq_true rfl⟩ tx kX10 (by decide) rfl rfl rfl (Nat.le_of_ble_eq_true rfl) ⟨by show _ ≤ 600000; omega, by show _ ≤ 7302250; omega⟩ (fun r S1 h => ?_)
  have hx1 : ext G G := ext.rf
  refine jB C [(.aload_n 2, 1, 0)] 783 [(3, .int x3), (2, .ref (b + mm)), (1, .ref (b + x)), (0, .ref sb)] [.ref (b + mm), .int r] (by decide +kernel) rfl rfl ?_
  refine jXa C (it := it) 788 1 (by decide) (by decide +kernel) (by decide +kernel) rfl hX hsb hbb hi hl hL ?_
  refine jXa C (it := it) 793 2 (by decide) (by decide +kernel) (by decide +kernel) rfl hX hsb hbb hi hl hL ?_
  refine jcV_I C 796 (rest := [.int r]) (ok_X11_cure tm h) (by decide +kernel : decode cL_law 793 = .ok (.invokevirtual 109, 3)) rfl wd_1703 wd_1704 wd_1705 wd_12 wd_1706 ⟨rfl, rfl⟩ hd_X11_cure ⟨Nat.le_of_ble_eq_true rfl, Nat.le_of_ble_eq_true rfl⟩ tm kX11 (by decide) rfl rfl rfl (Nat.le_of_ble_eq_true rfl) ⟨by show _ ≤ 600000; omega, by show _ ≤ 7302250; omega⟩ (fun r2 S2 h => ?_)
  refine jIcmp_eq C 799 1276 (by decide +kernel : decode cL_law 796 = .ok (.if_icmp .eq 480, 3)) rfl rfl (fun _ => ?_) (fun c1 => absurd h.1 c1)
  exact jWid (by omega) (by omega) (hK _ _ hx1 h.2)
def lw_23 (G : Gm) (x mm : Nat) (a1 a2 : Int32) (K : Gm → St → Prop) (S : St) : Prop := f_X10_saw G x a1 a2 (fun r S1 => f_X11_saw G mm a1 a2 (fun r2 S2 => r = r2 ∧ K G S2) S1) S
set_option maxHeartbeats 4000000 in
set_option maxRecDepth 100000 in
theorem jl_23 {p : Program} {l : Launch} {e : Env} {s : State} {m : MethodId} {below : List Frame} {meth : Method} {c : Code} {b : Nat} {D : va_G} {cy : Nat → ClassId} {rt : Option FieldType} {Z : State → Prop} {cells slots : Nat} {G : Gm} {S : St} {sb L it x mm : Nat} {xs : Nat → Int32} {x3 : Int32} {K : Gm → St → Prop} (C : CX p s m #[.ref sb] meth c b D cy cL_law RL 4 rt) (hX : va_X sb L xs s s.heap) (hsb : sb < s.heap.size) (hbb : b = s.heap.size) (hi : x3 = nI (6 * it)) (hl : 6 * it + 6 ≤ L) (hL : L ≤ 3072) (hcc : cells + 8 ≤ 600000) (hss : slots + 1000 ≤ 7302250) (tx : ok G 9 x) (tm : ok G 10 mm) (h : lw_23 G x mm (xs (6 * it + 1)) (xs (6 * it + 2)) K S) (hK : ∀ G1 S1, ext G G1 → K G1 S1 → J p l e room_1 s m #[.ref sb] below meth c b D cy 4 Z (cells + 8) (slots + 1000) G1 S1 1276 [(3, .int x3), (2, .ref (b + mm)), (1, .ref (b + x)), (0, .ref sb)] []) : J p l e room_1 s m #[.ref sb] below meth c b D cy 4 Z cells slots G S 801 [(3, .int x3), (2, .ref (b + mm)), (1, .ref (b + x)), (0, .ref sb)] [] := by
  unfold lw_23 at h
  refine jB C [(.aload_n 1, 1, 0)] 802 [(3, .int x3), (2, .ref (b + mm)), (1, .ref (b + x)), (0, .ref sb)] [.ref (b + x)] (by decide +kernel) rfl rfl ?_
  refine jXa C (it := it) 807 1 (by decide) (by decide +kernel) (by decide +kernel) rfl hX hsb hbb hi hl hL ?_
  refine jXa C (it := it) 812 2 (by decide) (by decide +kernel) (by decide +kernel) rfl hX hsb hbb hi hl hL ?_
  refine jcV_I C 815 (rest := []) (ok_X10_saw tx h) (by decide +kernel : decode cL_law 812 = .ok (.invokevirtual 110, 3)) rfl wd_934 wd_935 wd_936 wd_1 wd_937 ⟨rfl, rfl⟩ hd_X10_saw ⟨Nat.le_of_ble_eq_true rfl, Nat.le_of_ble_eq_true rfl⟩ tx kX10 (by decide) rfl rfl rfl (Nat.le_of_ble_eq_true rfl) ⟨by show _ ≤ 600000; omega, by show _ ≤ 7302250; omega⟩ (fun r S1 h => ?_)
  have hx1 : ext G G := ext.rf
  refine jB C [(.aload_n 2, 1, 0)] 816 [(3, .int x3), (2, .ref (b + mm)), (1, .ref (b + x)), (0, .ref sb)] [.ref (b + mm), .int r] (by decide +kernel) rfl rfl ?_
  refine jXa C (it := it) 821 1 (by decide) (by decide +kernel) (by decide +kernel) rfl hX hsb hbb hi hl hL ?_
  refine jXa C (it := it) 826 2 (by decide) (by decide +kernel) (by decide +kernel) rfl hX hsb hbb hi hl hL ?_
  refine jcV_I C 829 (rest := [.int r]) (ok_X11_saw tm h) (by decide +kernel : decode cL_law 826 = .ok (.invokevirtual 113, 3)) rfl wd_1716 wd_1717 wd_1718 wd_12 wd_1719 ⟨rfl, rfl⟩ hd_X11_saw ⟨Nat.le_of_ble_eq_true rfl, Nat.le_of_ble_eq_true rfl⟩ tm kX11 (by decide) rfl rfl rfl (Nat.le_of_ble_eq_true rfl) ⟨by show _ ≤ 600000; omega, by show _ ≤ 7302250; omega⟩ (fun r2 S2 h => ?_)
  refine jIcmp_eq C 832 1276 (by decide +kernel : decode cL_law 829 = .ok (.if_icmp .eq 447, 3)) rfl rfl (fun _ => ?_) (fun c1 => absurd h.1 c1)
  exact jWid (by omega) (by omega) (hK _ _ hx1 h.2)
def lw_24 (G : Gm) (x mm : Nat) (K : Gm → St → Prop) (S : St) : Prop := f_X10_forget G x (fun r S1 => f_X11_forget G mm (fun r2 S2 => r = r2 ∧ K G S2) S1) S
set_option maxHeartbeats 4000000 in
set_option maxRecDepth 100000 in
theorem jl_24 {p : Program} {l : Launch} {e : Env} {s : State} {m : MethodId} {below : List Frame} {meth : Method} {c : Code} {b : Nat} {D : va_G} {cy : Nat → ClassId} {rt : Option FieldType} {Z : State → Prop} {cells slots : Nat} {G : Gm} {S : St} {sb L it x mm : Nat} {xs : Nat → Int32} {x3 : Int32} {K : Gm → St → Prop} (C : CX p s m #[.ref sb] meth c b D cy cL_law RL 4 rt) (hX : va_X sb L xs s s.heap) (hsb : sb < s.heap.size) (hbb : b = s.heap.size) (hi : x3 = nI (6 * it)) (hl : 6 * it + 6 ≤ L) (hL : L ≤ 3072) (hcc : cells + 8 ≤ 600000) (hss : slots + 1000 ≤ 7302250) (tx : ok G 9 x) (tm : ok G 10 mm) (h : lw_24 G x mm K S) (hK : ∀ G1 S1, ext G G1 → K G1 S1 → J p l e room_1 s m #[.ref sb] below meth c b D cy 4 Z (cells + 8) (slots + 1000) G1 S1 1276 [(3, .int x3), (2, .ref (b + mm)), (1, .ref (b + x)), (0, .ref sb)] []) : J p l e room_1 s m #[.ref sb] below meth c b D cy 4 Z cells slots G S 834 [(3, .int x3), (2, .ref (b + mm)), (1, .ref (b + x)), (0, .ref sb)] [] := by
  unfold lw_24 at h
  refine jB C [(.aload_n 1, 1, 0)] 835 [(3, .int x3), (2, .ref (b + mm)), (1, .ref (b + x)), (0, .ref sb)] [.ref (b + x)] (by decide +kernel) rfl rfl ?_
  refine jcV_I C 838 (rest := []) (ok_X10_forget tx h) (by decide +kernel : decode cL_law 835 = .ok (.invokevirtual 114, 3)) rfl wd_942 wd_943 wd_944 wd_1 wd_945 ⟨rfl, rfl⟩ hd_X10_forget ⟨Nat.le_of_ble_eq_true rfl, Nat.le_of_ble_eq_true rfl⟩ tx kX10 (by decide) rfl rfl rfl (Nat.le_of_ble_eq_true rfl) ⟨by show _ ≤ 600000; omega, by show _ ≤ 7302250; omega⟩ (fun r S1 h => ?_)
  have hx1 : ext G G := ext.rf
  refine jB C [(.aload_n 2, 1, 0)] 839 [(3, .int x3), (2, .ref (b + mm)), (1, .ref (b + x)), (0, .ref sb)] [.ref (b + mm), .int r] (by decide +kernel) rfl rfl ?_
  refine jcV_I C 842 (rest := [.int r]) (ok_X11_forget tm h) (by decide +kernel : decode cL_law 839 = .ok (.invokevirtual 117, 3)) rfl wd_1720 wd_1721 wd_1722 wd_12 wd_1723 ⟨rfl, rfl⟩ hd_X11_forget ⟨Nat.le_of_ble_eq_true rfl, Nat.le_of_ble_eq_true rfl⟩ tm kX11 (by decide) rfl rfl rfl (Nat.le_of_ble_eq_true rfl) ⟨by show _ ≤ 600000; omega, by show _ ≤ 7302250; omega⟩ (fun r2 S2 h => ?_)
  refine jIcmp_eq C 845 1276 (by decide +kernel : decode cL_law 842 = .ok (.if_icmp .eq 434, 3)) rfl rfl (fun _ => ?_) (fun c1 => absurd h.1 c1)
  exact jWid (by omega) (by omega) (hK _ _ hx1 h.2)
def lw_25 (G : Gm) (x mm : Nat) (a1 : Int32) (K : Gm → St → Prop) (S : St) : Prop := f_X10_scenes G x a1 (fun r S1 => f_X11_scenes G mm a1 (fun r2 S2 => r = r2 ∧ K G S2) S1) S
set_option maxHeartbeats 4000000 in
set_option maxRecDepth 100000 in
theorem jl_25 {p : Program} {l : Launch} {e : Env} {s : State} {m : MethodId} {below : List Frame} {meth : Method} {c : Code} {b : Nat} {D : va_G} {cy : Nat → ClassId} {rt : Option FieldType} {Z : State → Prop} {cells slots : Nat} {G : Gm} {S : St} {sb L it x mm : Nat} {xs : Nat → Int32} {x3 : Int32} {K : Gm → St → Prop} (C : CX p s m #[.ref sb] meth c b D cy cL_law RL 4 rt) (hX : va_X sb L xs s s.heap) (hsb : sb < s.heap.size) (hbb : b = s.heap.size) (hi : x3 = nI (6 * it)) (hl : 6 * it + 6 ≤ L) (hL : L ≤ 3072) (hcc : cells + 8 ≤ 600000) (hss : slots + 1000 ≤ 7302250) (tx : ok G 9 x) (tm : ok G 10 mm) (h : lw_25 G x mm (xs (6 * it + 1)) K S) (hK : ∀ G1 S1, ext G G1 → K G1 S1 → J p l e room_1 s m #[.ref sb] below meth c b D cy 4 Z (cells + 8) (slots + 1000) G1 S1 1276 [(3, .int x3), (2, .ref (b + mm)), (1, .ref (b + x)), (0, .ref sb)] []) : J p l e room_1 s m #[.ref sb] below meth c b D cy 4 Z cells slots G S 847 [(3, .int x3), (2, .ref (b + mm)), (1, .ref (b + x)), (0, .ref sb)] [] := by
  unfold lw_25 at h
  refine jB C [(.aload_n 1, 1, 0)] 848 [(3, .int x3), (2, .ref (b + mm)), (1, .ref (b + x)), (0, .ref sb)] [.ref (b + x)] (by decide +kernel) rfl rfl ?_
  refine jXa C (it := it) 853 1 (by decide) (by decide +kernel) (by decide +kernel) rfl hX hsb hbb hi hl hL ?_
  refine jcV_I C 856 (rest := []) (ok_X10_scenes tx h) (by decide +kernel : decode cL_law 853 = .ok (.invokevirtual 118, 3)) rfl wd_946 wd_947 wd_948 wd_1 wd_949 ⟨rfl, rfl⟩ hd_X10_scenes ⟨Nat.le_of_ble_eq_true rfl, Nat.le_of_ble_eq_true rfl⟩ tx kX10 (by decide) rfl rfl rfl (Nat.le_of_ble_eq_true rfl) ⟨by show _ ≤ 600000; omega, by show _ ≤ 7302250; omega⟩ (fun r S1 h => ?_)
  have hx1 : ext G G := ext.rf
  refine jB C [(.aload_n 2, 1, 0)] 857 [(3, .int x3), (2, .ref (b + mm)), (1, .ref (b + x)), (0, .ref sb)] [.ref (b + mm), .int r] (by decide +kernel) rfl rfl ?_
  refine jXa C (it := it) 862 1 (by decide) (by decide +kernel) (by decide +kernel) rfl hX hsb hbb hi hl hL ?_
  refine jcV_I C 865 (rest := [.int r]) (ok_X11_scenes tm h) (by decide +kernel : decode cL_law 862 = .ok (.invokevirtual 121, 3)) rfl wd_1724 wd_1725 wd_1726 wd_12 wd_1727 ⟨rfl, rfl⟩ hd_X11_scenes ⟨Nat.le_of_ble_eq_true rfl, Nat.le_of_ble_eq_true rfl⟩ tm kX11 (by decide) rfl rfl rfl (Nat.le_of_ble_eq_true rfl) ⟨by show _ ≤ 600000; omega, by show _ ≤ 7302250; omega⟩ (fun r2 S2 h => ?_)
  refine jIcmp_eq C 868 1276 (by decide +kernel : decode cL_law 865 = .ok (.if_icmp .eq 411, 3)) rfl rfl (fun _ => ?_) (fun c1 => absurd h.1 c1)
  exact jWid (by omega) (by omega) (hK _ _ hx1 h.2)
def lw_26 (G : Gm) (x mm : Nat) (a1 : Int32) (K : Gm → St → Prop) (S : St) : Prop := f_X10_ask G x a1 (fun r S1 => f_X11_ask G mm a1 (fun r2 S2 => r = r2 ∧ K G S2) S1) S
set_option maxHeartbeats 4000000 in
set_option maxRecDepth 100000 in
theorem jl_26 {p : Program} {l : Launch} {e : Env} {s : State} {m : MethodId} {below : List Frame} {meth : Method} {c : Code} {b : Nat} {D : va_G} {cy : Nat → ClassId} {rt : Option FieldType} {Z : State → Prop} {cells slots : Nat} {G : Gm} {S : St} {sb L it x mm : Nat} {xs : Nat → Int32} {x3 : Int32} {K : Gm → St → Prop} (C : CX p s m #[.ref sb] meth c b D cy cL_law RL 4 rt) (hX : va_X sb L xs s s.heap) (hsb : sb < s.heap.size) (hbb : b = s.heap.size) (hi : x3 = nI (6 * it)) (hl : 6 * it + 6 ≤ L) (hL : L ≤ 3072) (hcc : cells + 8 ≤ 600000) (hss : slots + 1000 ≤ 7302250) (tx : ok G 9 x) (tm : ok G 10 mm) (h : lw_26 G x mm (xs (6 * it + 1)) K S) (hK : ∀ G1 S1, ext G G1 → K G1 S1 → J p l e room_1 s m #[.ref sb] below meth c b D cy 4 Z (cells + 8) (slots + 1000) G1 S1 1276 [(3, .int x3), (2, .ref (b + mm)), (1, .ref (b + x)), (0, .ref sb)] []) : J p l e room_1 s m #[.ref sb] below meth c b D cy 4 Z cells slots G S 870 [(3, .int x3), (2, .ref (b + mm)), (1, .ref (b + x)), (0, .ref sb)] [] := by
  unfold lw_26 at h
  refine jB C [(.aload_n 1, 1, 0)] 871 [(3, .int x3), (2, .ref (b + mm)), (1, .ref (b + x)), (0, .ref sb)] [.ref (b + x)] (by decide +kernel) rfl rfl ?_
  refine jXa C (it := it) 876 1 (by decide) (by decide +kernel) (by decide +kernel) rfl hX hsb hbb hi hl hL ?_
  refine jcV_I C 879 (rest := []) (ok_X10_ask tx h) (by decide +kernel : decode cL_law 876 = .ok (.invokevirtual 122, 3)) rfl wd_963 wd_964 wd_965 wd_1 wd_966 ⟨rfl, rfl⟩ hd_X10_ask ⟨Nat.le_of_ble_eq_true rfl, Nat.le_of_ble_eq_true rfl⟩ tx kX10 (by decide) rfl rfl rfl (Nat.le_of_ble_eq_true rfl) ⟨by show _ ≤ 600000; omega, by show _ ≤ 7302250; omega⟩ (fun r S1 h => ?_)
  have hx1 : ext G G := ext.rf
  refine jB C [(.aload_n 2, 1, 0)] 880 [(3, .int x3), (2, .ref (b + mm)), (1, .ref (b + x)), (0, .ref sb)] [.ref (b + mm), .int r] (by decide +kernel) rfl rfl ?_
  refine jXa C (it := it) 885 1 (by decide) (by decide +kernel) (by decide +kernel) rfl hX hsb hbb hi hl hL ?_
  refine jcV_I C 888 (rest := [.int r]) (ok_X11_ask tm h) (by decide +kernel : decode cL_law 885 = .ok (.invokevirtual 125, 3)) rfl wd_1732 wd_1733 wd_1734 wd_12 wd_1735 ⟨rfl, rfl⟩ hd_X11_ask ⟨Nat.le_of_ble_eq_true rfl, Nat.le_of_ble_eq_true rfl⟩ tm kX11 (by decide) rfl rfl rfl (Nat.le_of_ble_eq_true rfl) ⟨by show _ ≤ 600000; omega, by show _ ≤ 7302250; omega⟩ (fun r2 S2 h => ?_)
  refine jIcmp_eq C 891 1276 (by decide +kernel : decode cL_law 888 = .ok (.if_icmp .eq 388, 3)) rfl rfl (fun _ => ?_) (fun c1 => absurd h.1 c1)
  exact jWid (by omega) (by omega) (hK _ _ hx1 h.2)
def lw_27 (G : Gm) (x mm : Nat) (a1 : Int32) (K : Gm → St → Prop) (S : St) : Prop := f_X10_mixed G x a1 (fun r S1 => f_X11_mixed G mm a1 (fun r2 S2 => r = r2 ∧ K G S2) S1) S
set_option maxHeartbeats 4000000 in
set_option maxRecDepth 100000 in
theorem jl_27 {p : Program} {l : Launch} {e : Env} {s : State} {m : MethodId} {below : List Frame} {meth : Method} {c : Code} {b : Nat} {D : va_G} {cy : Nat → ClassId} {rt : Option FieldType} {Z : State → Prop} {cells slots : Nat} {G : Gm} {S : St} {sb L it x mm : Nat} {xs : Nat → Int32} {x3 : Int32} {K : Gm → St → Prop} (C : CX p s m #[.ref sb] meth c b D cy cL_law RL 4 rt) (hX : va_X sb L xs s s.heap) (hsb : sb < s.heap.size) (hbb : b = s.heap.size) (hi : x3 = nI (6 * it)) (hl : 6 * it + 6 ≤ L) (hL : L ≤ 3072) (hcc : cells + 8 ≤ 600000) (hss : slots + 1000 ≤ 7302250) (tx : ok G 9 x) (tm : ok G 10 mm) (h : lw_27 G x mm (xs (6 * it + 1)) K S) (hK : ∀ G1 S1, ext G G1 → K G1 S1 → J p l e room_1 s m #[.ref sb] below meth c b D cy 4 Z (cells + 8) (slots + 1000) G1 S1 1276 [(3, .int x3), (2, .ref (b + mm)), (1, .ref (b + x)), (0, .ref sb)] []) : J p l e room_1 s m #[.ref sb] below meth c b D cy 4 Z cells slots G S 893 [(3, .int x3), (2, .ref (b + mm)), (1, .ref (b + x)), (0, .ref sb)] [] := by
  unfold lw_27 at h
  refine jB C [(.aload_n 1, 1, 0)] 894 [(3, .int x3), (2, .ref (b + mm)), (1, .ref (b + x)), (0, .ref sb)] [.ref (b + x)] (by decide +kernel) rfl rfl ?_
  refine jXa C (it := it) 899 1 (by decide) (by decide +kernel) (by decide +kernel) rfl hX hsb hbb hi hl hL ?_
  refine jcV_I C 902 (rest := []) (ok_X10_mixed tx h) (by decide +kernel : decode cL_law 899 = .ok (.invokevirtual 126, 3)) rfl wd_976 wd_977 wd_978 wd_1 wd_979 ⟨rfl, rfl⟩ hd_X10_mixed ⟨Nat.le_of_ble_eq_true rfl, Nat.le_of_ble_eq_true rfl⟩ tx kX10 (by decide) rfl rfl rfl (Nat.le_of_ble_eq_true rfl) ⟨by show _ ≤ 600000; omega, by show _ ≤ 7302250; omega⟩ (fun r S1 h => ?_)
  have hx1 : ext G G := ext.rf
  refine jB C [(.aload_n 2, 1, 0)] 903 [(3, .int x3), (2, .ref (b + mm)), (1, .ref (b + x)), (0, .ref sb)] [.ref (b + mm), .int r] (by decide +kernel) rfl rfl ?_
  refine jXa C (it := it) 908 1 (by decide) (by decide +kernel) (by decide +kernel) rfl hX hsb hbb hi hl hL ?_
  refine jcV_I C 911 (rest := [.int r]) (ok_X11_mixed tm h) (by decide +kernel : decode cL_law 908 = .ok (.invokevirtual 129, 3)) rfl wd_1740 wd_1741 wd_1742 wd_12 wd_1743 ⟨rfl, rfl⟩ hd_X11_mixed ⟨Nat.le_of_ble_eq_true rfl, Nat.le_of_ble_eq_true rfl⟩ tm kX11 (by decide) rfl rfl rfl (Nat.le_of_ble_eq_true rfl) ⟨by show _ ≤ 600000; omega, by show _ ≤ 7302250; omega⟩ (fun r2 S2 h => ?_)
  refine jIcmp_eq C 914 1276 (by decide +kernel : decode cL_law 911 = .ok (.if_icmp .eq 365, 3)) rfl rfl (fun _ => ?_) (fun c1 => absurd h.1 c1)
  exact jWid (by omega) (by omega) (hK _ _ hx1 h.2)
def lw_28 (G : Gm) (x mm : Nat) (a1 : Int32) (K : Gm → St → Prop) (S : St) : Prop := f_X10_fitted G x a1 (fun r S1 => f_X11_fitted G mm a1 (fun r2 S2 => r = r2 ∧ K G S2) S1) S
set_option maxHeartbeats 4000000 in
set_option maxRecDepth 100000 in
theorem jl_28 {p : Program} {l : Launch} {e : Env} {s : State} {m : MethodId} {below : List Frame} {meth : Method} {c : Code} {b : Nat} {D : va_G} {cy : Nat → ClassId} {rt : Option FieldType} {Z : State → Prop} {cells slots : Nat} {G : Gm} {S : St} {sb L it x mm : Nat} {xs : Nat → Int32} {x3 : Int32} {K : Gm → St → Prop} (C : CX p s m #[.ref sb] meth c b D cy cL_law RL 4 rt) (hX : va_X sb L xs s s.heap) (hsb : sb < s.heap.size) (hbb : b = s.heap.size) (hi : x3 = nI (6 * it)) (hl : 6 * it + 6 ≤ L) (hL : L ≤ 3072) (hcc : cells + 8 ≤ 600000) (hss : slots + 1000 ≤ 7302250) (tx : ok G 9 x) (tm : ok G 10 mm) (h : lw_28 G x mm (xs (6 * it + 1)) K S) (hK : ∀ G1 S1, ext G G1 → K G1 S1 → J p l e room_1 s m #[.ref sb] below meth c b D cy 4 Z (cells + 8) (slots + 1000) G1 S1 1276 [(3, .int x3), (2, .ref (b + mm)), (1, .ref (b + x)), (0, .ref sb)] []) : J p l e room_1 s m #[.ref sb] below meth c b D cy 4 Z cells slots G S 916 [(3, .int x3), (2, .ref (b + mm)), (1, .ref (b + x)), (0, .ref sb)] [] := by
  unfold lw_28 at h
  refine jB C [(.aload_n 1, 1, 0)] 917 [(3, .int x3), (2, .ref (b + mm)), (1, .ref (b + x)), (0, .ref sb)] [.ref (b + x)] (by decide +kernel) rfl rfl ?_
  refine jXa C (it := it) 922 1 (by decide) (by decide +kernel) (by decide +kernel) rfl hX hsb hbb hi hl hL ?_
  refine jcV_I C 925 (rest := []) (ok_X10_fitted tx h) (by decide +kernel : decode cL_law 922 = .ok (.invokevirtual 130, 3)) rfl wd_987 wd_988 wd_989 wd_1 wd_990 ⟨rfl, rfl⟩ hd_X10_fitted ⟨Nat.le_of_ble_eq_true rfl, Nat.le_of_ble_eq_true rfl⟩ tx kX10 (by decide) rfl rfl rfl (Nat.le_of_ble_eq_true rfl) ⟨by show _ ≤ 600000; omega, by show _ ≤ 7302250; omega⟩ (fun r S1 h => ?_)
  have hx1 : ext G G := ext.rf
  refine jB C [(.aload_n 2, 1, 0)] 926 [(3, .int x3), (2, .ref (b + mm)), (1, .ref (b + x)), (0, .ref sb)] [.ref (b + mm), .int r] (by decide +kernel) rfl rfl ?_
  refine jXa C (it := it) 931 1 (by decide) (by decide +kernel) (by decide +kernel) rfl hX hsb hbb hi hl hL ?_
  refine jcV_I C 934 (rest := [.int r]) (ok_X11_fitted tm h) (by decide +kernel : decode cL_law 931 = .ok (.invokevirtual 133, 3)) rfl wd_1744 wd_1745 wd_1746 wd_12 wd_1747 ⟨rfl, rfl⟩ hd_X11_fitted ⟨Nat.le_of_ble_eq_true rfl, Nat.le_of_ble_eq_true rfl⟩ tm kX11 (by decide) rfl rfl rfl (Nat.le_of_ble_eq_true rfl) ⟨by show _ ≤ 600000; omega, by show _ ≤ 7302250; omega⟩ (fun r2 S2 h => ?_)
  refine jIcmp_eq C 937 1276 (by decide +kernel : decode cL_law 934 = .ok (.if_icmp .eq 342, 3)) rfl rfl (fun _ => ?_) (fun c1 => absurd h.1 c1)
  exact jWid (by omega) (by omega) (hK _ _ hx1 h.2)
def lw_29 (G : Gm) (x mm : Nat) (a1 a2 a3 : Int32) (K : Gm → St → Prop) (S : St) : Prop := f_X10_come G x a1 a2 a3 (fun r S1 => f_X11_come G mm a1 a2 a3 (fun r2 S2 => r = r2 ∧ K G S2) S1) S
set_option maxHeartbeats 4000000 in
set_option maxRecDepth 100000 in
theorem jl_29 {p : Program} {l : Launch} {e : Env} {s : State} {m : MethodId} {below : List Frame} {meth : Method} {c : Code} {b : Nat} {D : va_G} {cy : Nat → ClassId} {rt : Option FieldType} {Z : State → Prop} {cells slots : Nat} {G : Gm} {S : St} {sb L it x mm : Nat} {xs : Nat → Int32} {x3 : Int32} {K : Gm → St → Prop} (C : CX p s m #[.ref sb] meth c b D cy cL_law RL 4 rt) (hX : va_X sb L xs s s.heap) (hsb : sb < s.heap.size) (hbb : b = s.heap.size) (hi : x3 = nI (6 * it)) (hl : 6 * it + 6 ≤ L) (hL : L ≤ 3072) (hcc : cells + 8 ≤ 600000) (hss : slots + 1000 ≤ 7302250) (tx : ok G 9 x) (tm : ok G 10 mm) (h : lw_29 G x mm (xs (6 * it + 1)) (xs (6 * it + 2)) (xs (6 * it + 3)) K S) (hK : ∀ G1 S1, ext G G1 → K G1 S1 → J p l e room_1 s m #[.ref sb] below meth c b D cy 4 Z (cells + 8) (slots + 1000) G1 S1 1276 [(3, .int x3), (2, .ref (b + mm)), (1, .ref (b + x)), (0, .ref sb)] []) : J p l e room_1 s m #[.ref sb] below meth c b D cy 4 Z cells slots G S 939 [(3, .int x3), (2, .ref (b + mm)), (1, .ref (b + x)), (0, .ref sb)] [] := by
  unfold lw_29 at h
  refine jB C [(.aload_n 1, 1, 0)] 940 [(3, .int x3), (2, .ref (b + mm)), (1, .ref (b + x)), (0, .ref sb)] [.ref (b + x)] (by decide +kernel) rfl rfl ?_
  refine jXa C (it := it) 945 1 (by decide) (by decide +kernel) (by decide +kernel) rfl hX hsb hbb hi hl hL ?_
  refine jXa C (it := it) 950 2 (by decide) (by decide +kernel) (by decide +kernel) rfl hX hsb hbb hi hl hL ?_
  refine jXa C (it := it) 955 3 (by decide) (by decide +kernel) (by decide +kernel) rfl hX hsb hbb hi hl hL ?_
  refine jcV_I C 958 (rest := []) (ok_X10_come tx h) (by decide +kernel : decode cL_law 955 = .ok (.invokevirtual 134, 3)) rfl wd_1020 wd_1021 wd_1022 wd_1 wd_1023 ⟨rfl, rfl⟩ hd_X10_come ⟨Nat.le_of_ble_eq_true rfl, Nat.le_of_ble_eq_true rfl⟩ tx kX10 (by decide) rfl rfl rfl (Nat.le_of_ble_eq_true rfl) ⟨by show _ ≤ 600000; omega, by show _ ≤ 7302250; omega⟩ (fun r S1 h => ?_)
  have hx1 : ext G G := ext.rf
  refine jB C [(.aload_n 2, 1, 0)] 959 [(3, .int x3), (2, .ref (b + mm)), (1, .ref (b + x)), (0, .ref sb)] [.ref (b + mm), .int r] (by decide +kernel) rfl rfl ?_
  refine jXa C (it := it) 964 1 (by decide) (by decide +kernel) (by decide +kernel) rfl hX hsb hbb hi hl hL ?_
  refine jXa C (it := it) 969 2 (by decide) (by decide +kernel) (by decide +kernel) rfl hX hsb hbb hi hl hL ?_
  refine jXa C (it := it) 974 3 (by decide) (by decide +kernel) (by decide +kernel) rfl hX hsb hbb hi hl hL ?_
  refine jcV_I C 977 (rest := [.int r]) (ok_X11_come tm h) (by decide +kernel : decode cL_law 974 = .ok (.invokevirtual 137, 3)) rfl wd_1760 wd_1761 wd_1762 wd_12 wd_1763 ⟨rfl, rfl⟩ hd_X11_come ⟨Nat.le_of_ble_eq_true rfl, Nat.le_of_ble_eq_true rfl⟩ tm kX11 (by decide) rfl rfl rfl (Nat.le_of_ble_eq_true rfl) ⟨by show _ ≤ 600000; omega, by show _ ≤ 7302250; omega⟩ (fun r2 S2 h => ?_)
  refine jIcmp_eq C 980 1276 (by decide +kernel : decode cL_law 977 = .ok (.if_icmp .eq 299, 3)) rfl rfl (fun _ => ?_) (fun c1 => absurd h.1 c1)
  exact jWid (by omega) (by omega) (hK _ _ hx1 h.2)
def lw_30 (G : Gm) (x mm : Nat) (a1 a2 : Int32) (K : Gm → St → Prop) (S : St) : Prop := f_X10_idle G x a1 a2 (fun r S1 => f_X11_idle G mm a1 a2 (fun r2 S2 => r = r2 ∧ K G S2) S1) S
set_option maxHeartbeats 4000000 in
set_option maxRecDepth 100000 in
theorem jl_30 {p : Program} {l : Launch} {e : Env} {s : State} {m : MethodId} {below : List Frame} {meth : Method} {c : Code} {b : Nat} {D : va_G} {cy : Nat → ClassId} {rt : Option FieldType} {Z : State → Prop} {cells slots : Nat} {G : Gm} {S : St} {sb L it x mm : Nat} {xs : Nat → Int32} {x3 : Int32} {K : Gm → St → Prop} (C : CX p s m #[.ref sb] meth c b D cy cL_law RL 4 rt) (hX : va_X sb L xs s s.heap) (hsb : sb < s.heap.size) (hbb : b = s.heap.size) (hi : x3 = nI (6 * it)) (hl : 6 * it + 6 ≤ L) (hL : L ≤ 3072) (hcc : cells + 8 ≤ 600000) (hss : slots + 1000 ≤ 7302250) (tx : ok G 9 x) (tm : ok G 10 mm) (h : lw_30 G x mm (xs (6 * it + 1)) (xs (6 * it + 2)) K S) (hK : ∀ G1 S1, ext G G1 → K G1 S1 → J p l e room_1 s m #[.ref sb] below meth c b D cy 4 Z (cells + 8) (slots + 1000) G1 S1 1276 [(3, .int x3), (2, .ref (b + mm)), (1, .ref (b + x)), (0, .ref sb)] []) : J p l e room_1 s m #[.ref sb] below meth c b D cy 4 Z cells slots G S 982 [(3, .int x3), (2, .ref (b + mm)), (1, .ref (b + x)), (0, .ref sb)] [] := by
  unfold lw_30 at h
  refine jB C [(.aload_n 1, 1, 0)] 983 [(3, .int x3), (2, .ref (b + mm)), (1, .ref (b + x)), (0, .ref sb)] [.ref (b + x)] (by decide +kernel) rfl rfl ?_
  refine jXa C (it := it) 988 1 (by decide) (by decide +kernel) (by decide +kernel) rfl hX hsb hbb hi hl hL ?_
  refine jXa C (it := it) 993 2 (by decide) (by decide +kernel) (by decide +kernel) rfl hX hsb hbb hi hl hL ?_
  refine jcV_I C 996 (rest := []) (ok_X10_idle tx h) (by decide +kernel : decode cL_law 993 = .ok (.invokevirtual 138, 3)) rfl wd_1032 wd_1033 wd_1034 wd_1 wd_1035 ⟨rfl, rfl⟩ hd_X10_idle ⟨Nat.le_of_ble_eq_true rfl, Nat.le_of_ble_eq_true rfl⟩ tx kX10 (by decide) rfl rfl rfl (Nat.le_of_ble_eq_true rfl) ⟨by show _ ≤ 600000; omega, by show _ ≤ 7302250; omega⟩ (fun r S1 h => ?_)
  have hx1 : ext G G := ext.rf
  refine jB C [(.aload_n 2, 1, 0)] 997 [(3, .int x3), (2, .ref (b + mm)), (1, .ref (b + x)), (0, .ref sb)] [.ref (b + mm), .int r] (by decide +kernel) rfl rfl ?_
  refine jXa C (it := it) 1002 1 (by decide) (by decide +kernel) (by decide +kernel) rfl hX hsb hbb hi hl hL ?_
  refine jXa C (it := it) 1007 2 (by decide) (by decide +kernel) (by decide +kernel) rfl hX hsb hbb hi hl hL ?_
  refine jcV_I C 1010 (rest := [.int r]) (ok_X11_idle tm h) (by decide +kernel : decode cL_law 1007 = .ok (.invokevirtual 141, 3)) rfl wd_1764 wd_1765 wd_1766 wd_12 wd_1767 ⟨rfl, rfl⟩ hd_X11_idle ⟨Nat.le_of_ble_eq_true rfl, Nat.le_of_ble_eq_true rfl⟩ tm kX11 (by decide) rfl rfl rfl (Nat.le_of_ble_eq_true rfl) ⟨by show _ ≤ 600000; omega, by show _ ≤ 7302250; omega⟩ (fun r2 S2 h => ?_)
  refine jIcmp_eq C 1013 1276 (by decide +kernel : decode cL_law 1010 = .ok (.if_icmp .eq 266, 3)) rfl rfl (fun _ => ?_) (fun c1 => absurd h.1 c1)
  exact jWid (by omega) (by omega) (hK _ _ hx1 h.2)
def lw_31 (G : Gm) (x mm : Nat) (a1 : Int32) (K : Gm → St → Prop) (S : St) : Prop := f_X10_alike G x a1 (fun r S1 => f_X11_alike G mm a1 (fun r2 S2 => r = r2 ∧ K G S2) S1) S
set_option maxHeartbeats 4000000 in
set_option maxRecDepth 100000 in
theorem jl_31 {p : Program} {l : Launch} {e : Env} {s : State} {m : MethodId} {below : List Frame} {meth : Method} {c : Code} {b : Nat} {D : va_G} {cy : Nat → ClassId} {rt : Option FieldType} {Z : State → Prop} {cells slots : Nat} {G : Gm} {S : St} {sb L it x mm : Nat} {xs : Nat → Int32} {x3 : Int32} {K : Gm → St → Prop} (C : CX p s m #[.ref sb] meth c b D cy cL_law RL 4 rt) (hX : va_X sb L xs s s.heap) (hsb : sb < s.heap.size) (hbb : b = s.heap.size) (hi : x3 = nI (6 * it)) (hl : 6 * it + 6 ≤ L) (hL : L ≤ 3072) (hcc : cells + 8 ≤ 600000) (hss : slots + 1000 ≤ 7302250) (tx : ok G 9 x) (tm : ok G 10 mm) (h : lw_31 G x mm (xs (6 * it + 1)) K S) (hK : ∀ G1 S1, ext G G1 → K G1 S1 → J p l e room_1 s m #[.ref sb] below meth c b D cy 4 Z (cells + 8) (slots + 1000) G1 S1 1276 [(3, .int x3), (2, .ref (b + mm)), (1, .ref (b + x)), (0, .ref sb)] []) : J p l e room_1 s m #[.ref sb] below meth c b D cy 4 Z cells slots G S 1015 [(3, .int x3), (2, .ref (b + mm)), (1, .ref (b + x)), (0, .ref sb)] [] := by
  unfold lw_31 at h
  refine jB C [(.aload_n 1, 1, 0)] 1016 [(3, .int x3), (2, .ref (b + mm)), (1, .ref (b + x)), (0, .ref sb)] [.ref (b + x)] (by decide +kernel) rfl rfl ?_
  refine jXa C (it := it) 1021 1 (by decide) (by decide +kernel) (by decide +kernel) rfl hX hsb hbb hi hl hL ?_
  refine jcV_I C 1024 (rest := []) (ok_X10_alike tx h) (by decide +kernel : decode cL_law 1021 = .ok (.invokevirtual 142, 3)) rfl wd_1050 wd_1051 wd_1052 wd_1 wd_1053 ⟨rfl, rfl⟩ hd_X10_alike ⟨Nat.le_of_ble_eq_true rfl, Nat.le_of_ble_eq_true rfl⟩ tx kX10 (by decide) rfl rfl rfl (Nat.le_of_ble_eq_true rfl) ⟨by show _ ≤ 600000; omega, by show _ ≤ 7302250; omega⟩ (fun r S1 h => ?_)
  have hx1 : ext G G := ext.rf
  refine jB C [(.aload_n 2, 1, 0)] 1025 [(3, .int x3), (2, .ref (b + mm)), (1, .ref (b + x)), (0, .ref sb)] [.ref (b + mm), .int r] (by decide +kernel) rfl rfl ?_
  refine jXa C (it := it) 1030 1 (by decide) (by decide +kernel) (by decide +kernel) rfl hX hsb hbb hi hl hL ?_
  refine jcV_I C 1033 (rest := [.int r]) (ok_X11_alike tm h) (by decide +kernel : decode cL_law 1030 = .ok (.invokevirtual 145, 3)) rfl wd_1773 wd_1774 wd_1775 wd_12 wd_1776 ⟨rfl, rfl⟩ hd_X11_alike ⟨Nat.le_of_ble_eq_true rfl, Nat.le_of_ble_eq_true rfl⟩ tm kX11 (by decide) rfl rfl rfl (Nat.le_of_ble_eq_true rfl) ⟨by show _ ≤ 600000; omega, by show _ ≤ 7302250; omega⟩ (fun r2 S2 h => ?_)
  refine jIcmp_eq C 1036 1276 (by decide +kernel : decode cL_law 1033 = .ok (.if_icmp .eq 243, 3)) rfl rfl (fun _ => ?_) (fun c1 => absurd h.1 c1)
  exact jWid (by omega) (by omega) (hK _ _ hx1 h.2)
def lw_32 (G : Gm) (x mm : Nat) (a1 a2 : Int32) (K : Gm → St → Prop) (S : St) : Prop := f_X10_ground G x a1 a2 (fun r S1 => f_X11_ground G mm a1 a2 (fun r2 S2 => r = r2 ∧ K G S2) S1) S
set_option maxHeartbeats 4000000 in
set_option maxRecDepth 100000 in
theorem jl_32 {p : Program} {l : Launch} {e : Env} {s : State} {m : MethodId} {below : List Frame} {meth : Method} {c : Code} {b : Nat} {D : va_G} {cy : Nat → ClassId} {rt : Option FieldType} {Z : State → Prop} {cells slots : Nat} {G : Gm} {S : St} {sb L it x mm : Nat} {xs : Nat → Int32} {x3 : Int32} {K : Gm → St → Prop} (C : CX p s m #[.ref sb] meth c b D cy cL_law RL 4 rt) (hX : va_X sb L xs s s.heap) (hsb : sb < s.heap.size) (hbb : b = s.heap.size) (hi : x3 = nI (6 * it)) (hl : 6 * it + 6 ≤ L) (hL : L ≤ 3072) (hcc : cells + 8 ≤ 600000) (hss : slots + 1000 ≤ 7302250) (tx : ok G 9 x) (tm : ok G 10 mm) (h : lw_32 G x mm (xs (6 * it + 1)) (xs (6 * it + 2)) K S) (hK : ∀ G1 S1, ext G G1 → K G1 S1 → J p l e room_1 s m #[.ref sb] below meth c b D cy 4 Z (cells + 8) (slots + 1000) G1 S1 1276 [(3, .int x3), (2, .ref (b + mm)), (1, .ref (b + x)), (0, .ref sb)] []) : J p l e room_1 s m #[.ref sb] below meth c b D cy 4 Z cells slots G S 1038 [(3, .int x3), (2, .ref (b + mm)), (1, .ref (b + x)), (0, .ref sb)] [] := by
  unfold lw_32 at h
  refine jB C [(.aload_n 1, 1, 0)] 1039 [(3, .int x3), (2, .ref (b + mm)), (1, .ref (b + x)), (0, .ref sb)] [.ref (b + x)] (by decide +kernel) rfl rfl ?_
  refine jXa C (it := it) 1044 1 (by decide) (by decide +kernel) (by decide +kernel) rfl hX hsb hbb hi hl hL ?_
  refine jXa C (it := it) 1049 2 (by decide) (by decide +kernel) (by decide +kernel) rfl hX hsb hbb hi hl hL ?_
  refine jcV_I C 1052 (rest := []) (ok_X10_ground tx h) (by decide +kernel : decode cL_law 1049 = .ok (.invokevirtual 146, 3)) rfl wd_1054 wd_1055 wd_1056 wd_1 wd_1057 ⟨rfl, rfl⟩ hd_X10_ground ⟨Nat.le_of_ble_eq_true rfl, Nat.le_of_ble_eq_true rfl⟩ tx kX10 (by decide) rfl rfl rfl (Nat.le_of_ble_eq_true rfl) ⟨by show _ ≤ 600000; omega, by show _ ≤ 7302250; omega⟩ (fun r S1 h => ?_)
  have hx1 : ext G G := ext.rf
  refine jB C [(.aload_n 2, 1, 0)] 1053 [(3, .int x3), (2, .ref (b + mm)), (1, .ref (b + x)), (0, .ref sb)] [.ref (b + mm), .int r] (by decide +kernel) rfl rfl ?_
  refine jXa C (it := it) 1058 1 (by decide) (by decide +kernel) (by decide +kernel) rfl hX hsb hbb hi hl hL ?_
  refine jXa C (it := it) 1063 2 (by decide) (by decide +kernel) (by decide +kernel) rfl hX hsb hbb hi hl hL ?_
  refine jcV_I C 1066 (rest := [.int r]) (ok_X11_ground tm h) (by decide +kernel : decode cL_law 1063 = .ok (.invokevirtual 149, 3)) rfl wd_1777 wd_1778 wd_1779 wd_12 wd_1780 ⟨rfl, rfl⟩ hd_X11_ground ⟨Nat.le_of_ble_eq_true rfl, Nat.le_of_ble_eq_true rfl⟩ tm kX11 (by decide) rfl rfl rfl (Nat.le_of_ble_eq_true rfl) ⟨by show _ ≤ 600000; omega, by show _ ≤ 7302250; omega⟩ (fun r2 S2 h => ?_)
  refine jIcmp_eq C 1069 1276 (by decide +kernel : decode cL_law 1066 = .ok (.if_icmp .eq 210, 3)) rfl rfl (fun _ => ?_) (fun c1 => absurd h.1 c1)
  exact jWid (by omega) (by omega) (hK _ _ hx1 h.2)
def lw_33 (G : Gm) (x mm : Nat) (a1 : Int32) (K : Gm → St → Prop) (S : St) : Prop := f_X10_mildest G x a1 (fun r S1 => f_X11_mildest G mm a1 (fun r2 S2 => r = r2 ∧ K G S2) S1) S
set_option maxHeartbeats 4000000 in
set_option maxRecDepth 100000 in
theorem jl_33 {p : Program} {l : Launch} {e : Env} {s : State} {m : MethodId} {below : List Frame} {meth : Method} {c : Code} {b : Nat} {D : va_G} {cy : Nat → ClassId} {rt : Option FieldType} {Z : State → Prop} {cells slots : Nat} {G : Gm} {S : St} {sb L it x mm : Nat} {xs : Nat → Int32} {x3 : Int32} {K : Gm → St → Prop} (C : CX p s m #[.ref sb] meth c b D cy cL_law RL 4 rt) (hX : va_X sb L xs s s.heap) (hsb : sb < s.heap.size) (hbb : b = s.heap.size) (hi : x3 = nI (6 * it)) (hl : 6 * it + 6 ≤ L) (hL : L ≤ 3072) (hcc : cells + 8 ≤ 600000) (hss : slots + 1000 ≤ 7302250) (tx : ok G 9 x) (tm : ok G 10 mm) (h : lw_33 G x mm (xs (6 * it + 1)) K S) (hK : ∀ G1 S1, ext G G1 → K G1 S1 → J p l e room_1 s m #[.ref sb] below meth c b D cy 4 Z (cells + 8) (slots + 1000) G1 S1 1276 [(3, .int x3), (2, .ref (b + mm)), (1, .ref (b + x)), (0, .ref sb)] []) : J p l e room_1 s m #[.ref sb] below meth c b D cy 4 Z cells slots G S 1071 [(3, .int x3), (2, .ref (b + mm)), (1, .ref (b + x)), (0, .ref sb)] [] := by
  unfold lw_33 at h
  refine jB C [(.aload_n 1, 1, 0)] 1072 [(3, .int x3), (2, .ref (b + mm)), (1, .ref (b + x)), (0, .ref sb)] [.ref (b + x)] (by decide +kernel) rfl rfl ?_
  refine jXa C (it := it) 1077 1 (by decide) (by decide +kernel) (by decide +kernel) rfl hX hsb hbb hi hl hL ?_
  refine jcV_I C 1080 (rest := []) (ok_X10_mildest tx h) (by decide +kernel : decode cL_law 1077 = .ok (.invokevirtual 150, 3)) rfl wd_1060 wd_1061 wd_1062 wd_1 wd_1063 ⟨rfl, rfl⟩ hd_X10_mildest ⟨Nat.le_of_ble_eq_true rfl, Nat.le_of_ble_eq_true rfl⟩ tx kX10 (by decide) rfl rfl rfl (Nat.le_of_ble_eq_true rfl) ⟨by show _ ≤ 600000; omega, by show _ ≤ 7302250; omega⟩ (fun r S1 h => ?_)
  have hx1 : ext G G := ext.rf
  refine jB C [(.aload_n 2, 1, 0)] 1081 [(3, .int x3), (2, .ref (b + mm)), (1, .ref (b + x)), (0, .ref sb)] [.ref (b + mm), .int r] (by decide +kernel) rfl rfl ?_
  refine jXa C (it := it) 1086 1 (by decide) (by decide +kernel) (by decide +kernel) rfl hX hsb hbb hi hl hL ?_
  refine jcV_I C 1089 (rest := [.int r]) (ok_X11_mildest tm h) (by decide +kernel : decode cL_law 1086 = .ok (.invokevirtual 153, 3)) rfl wd_1781 wd_1782 wd_1783 wd_12 wd_1784 ⟨rfl, rfl⟩ hd_X11_mildest ⟨Nat.le_of_ble_eq_true rfl, Nat.le_of_ble_eq_true rfl⟩ tm kX11 (by decide) rfl rfl rfl (Nat.le_of_ble_eq_true rfl) ⟨by show _ ≤ 600000; omega, by show _ ≤ 7302250; omega⟩ (fun r2 S2 h => ?_)
  refine jIcmp_eq C 1092 1276 (by decide +kernel : decode cL_law 1089 = .ok (.if_icmp .eq 187, 3)) rfl rfl (fun _ => ?_) (fun c1 => absurd h.1 c1)
  exact jWid (by omega) (by omega) (hK _ _ hx1 h.2)
def lw_34 (G : Gm) (x mm : Nat) (a1 a2 : Int32) (K : Gm → St → Prop) (S : St) : Prop := f_X10_weaker G x a1 a2 (fun r S1 => f_X11_weaker G mm a1 a2 (fun r2 S2 => r = r2 ∧ K G S2) S1) S
set_option maxHeartbeats 4000000 in
set_option maxRecDepth 100000 in
theorem jl_34 {p : Program} {l : Launch} {e : Env} {s : State} {m : MethodId} {below : List Frame} {meth : Method} {c : Code} {b : Nat} {D : va_G} {cy : Nat → ClassId} {rt : Option FieldType} {Z : State → Prop} {cells slots : Nat} {G : Gm} {S : St} {sb L it x mm : Nat} {xs : Nat → Int32} {x3 : Int32} {K : Gm → St → Prop} (C : CX p s m #[.ref sb] meth c b D cy cL_law RL 4 rt) (hX : va_X sb L xs s s.heap) (hsb : sb < s.heap.size) (hbb : b = s.heap.size) (hi : x3 = nI (6 * it)) (hl : 6 * it + 6 ≤ L) (hL : L ≤ 3072) (hcc : cells + 8 ≤ 600000) (hss : slots + 1000 ≤ 7302250) (tx : ok G 9 x) (tm : ok G 10 mm) (h : lw_34 G x mm (xs (6 * it + 1)) (xs (6 * it + 2)) K S) (hK : ∀ G1 S1, ext G G1 → K G1 S1 → J p l e room_1 s m #[.ref sb] below meth c b D cy 4 Z (cells + 8) (slots + 1000) G1 S1 1276 [(3, .int x3), (2, .ref (b + mm)), (1, .ref (b + x)), (0, .ref sb)] []) : J p l e room_1 s m #[.ref sb] below meth c b D cy 4 Z cells slots G S 1094 [(3, .int x3), (2, .ref (b + mm)), (1, .ref (b + x)), (0, .ref sb)] [] := by
  unfold lw_34 at h
  refine jB C [(.aload_n 1, 1, 0)] 1095 [(3, .int x3), (2, .ref (b + mm)), (1, .ref (b + x)), (0, .ref sb)] [.ref (b + x)] (by decide +kernel) rfl rfl ?_
  refine jXa C (it := it) 1100 1 (by decide) (by decide +kernel) (by decide +kernel) rfl hX hsb hbb hi hl hL ?_
  refine jXa C (it := it) 1105 2 (by decide) (by decide +kernel) (by decide +kernel) rfl hX hsb hbb hi hl hL ?_
  refine jcV_L C 1108 (rest := []) (ok_X10_weaker tx h) (by decide +kernel : decode cL_law 1105 = .ok (.invokevirtual 154, 3)) rfl wd_1072 wd_1073 wd_1074 wd_1 wd_1075 ⟨rfl, rfl⟩ hd_X10_weaker ⟨Nat.le_of_ble_eq_true rfl, Nat.le_of_ble_eq_true rfl⟩ tx kX10 (by decide) rfl rfl rfl (Nat.le_of_ble_eq_true rfl) ⟨by show _ ≤ 600000; omega, by show _ ≤ 7302250; omega⟩ (fun r S1 h => ?_)
  have hx1 : ext G G := ext.rf
  refine jB C [(.aload_n 2, 1, 0)] 1109 [(3, .int x3), (2, .ref (b + mm)), (1, .ref (b + x)), (0, .ref sb)] [.ref (b + mm), .long r] (by decide +kernel) rfl rfl ?_
  refine jXa C (it := it) 1114 1 (by decide) (by decide +kernel) (by decide +kernel) rfl hX hsb hbb hi hl hL ?_
  refine jXa C (it := it) 1119 2 (by decide) (by decide +kernel) (by decide +kernel) rfl hX hsb hbb hi hl hL ?_
  refine jcV_L C 1122 (rest := [.long r]) (ok_X11_weaker tm h) (by decide +kernel : decode cL_law 1119 = .ok (.invokevirtual 158, 3)) rfl wd_1785 wd_1786 wd_1787 wd_12 wd_1788 ⟨rfl, rfl⟩ hd_X11_weaker ⟨Nat.le_of_ble_eq_true rfl, Nat.le_of_ble_eq_true rfl⟩ tm kX11 (by decide) rfl rfl rfl (Nat.le_of_ble_eq_true rfl) ⟨by show _ ≤ 600000; omega, by show _ ≤ 7302250; omega⟩ (fun r2 S2 h => ?_)
  refine jB C [(.lcmp, 1, 0)] 1123 [(3, .int x3), (2, .ref (b + mm)), (1, .ref (b + x)), (0, .ref sb)] [.int (lg_cmp r r2)] (by decide +kernel) rfl rfl ?_
  refine jIf_eq C 1126 1276 (by decide +kernel : decode cL_law 1123 = .ok (.ifCond .eq 153, 3)) rfl rfl (fun _ => ?_) (fun c1 => absurd (by rw [h.1]; simp [lg_cmp]) c1)
  exact jWid (by omega) (by omega) (hK _ _ hx1 h.2)
def lw_35 (G : Gm) (x mm : Nat) (a1 a2 : Int32) (K : Gm → St → Prop) (S : St) : Prop := f_X10_months G x a1 a2 (fun r S1 => f_X11_months G mm a1 a2 (fun r2 S2 => r = r2 ∧ K G S2) S1) S
set_option maxHeartbeats 4000000 in
set_option maxRecDepth 100000 in
theorem jl_35 {p : Program} {l : Launch} {e : Env} {s : State} {m : MethodId} {below : List Frame} {meth : Method} {c : Code} {b : Nat} {D : va_G} {cy : Nat → ClassId} {rt : Option FieldType} {Z : State → Prop} {cells slots : Nat} {G : Gm} {S : St} {sb L it x mm : Nat} {xs : Nat → Int32} {x3 : Int32} {K : Gm → St → Prop} (C : CX p s m #[.ref sb] meth c b D cy cL_law RL 4 rt) (hX : va_X sb L xs s s.heap) (hsb : sb < s.heap.size) (hbb : b = s.heap.size) (hi : x3 = nI (6 * it)) (hl : 6 * it + 6 ≤ L) (hL : L ≤ 3072) (hcc : cells + 8 ≤ 600000) (hss : slots + 1000 ≤ 7302250) (tx : ok G 9 x) (tm : ok G 10 mm) (h : lw_35 G x mm (xs (6 * it + 1)) (xs (6 * it + 2)) K S) (hK : ∀ G1 S1, ext G G1 → K G1 S1 → J p l e room_1 s m #[.ref sb] below meth c b D cy 4 Z (cells + 8) (slots + 1000) G1 S1 1276 [(3, .int x3), (2, .ref (b + mm)), (1, .ref (b + x)), (0, .ref sb)] []) : J p l e room_1 s m #[.ref sb] below meth c b D cy 4 Z cells slots G S 1128 [(3, .int x3), (2, .ref (b + mm)), (1, .ref (b + x)), (0, .ref sb)] [] := by
  unfold lw_35 at h
  refine jB C [(.aload_n 1, 1, 0)] 1129 [(3, .int x3), (2, .ref (b + mm)), (1, .ref (b + x)), (0, .ref sb)] [.ref (b + x)] (by decide +kernel) rfl rfl ?_
  refine jXa C (it := it) 1134 1 (by decide) (by decide +kernel) (by decide +kernel) rfl hX hsb hbb hi hl hL ?_
  refine jXa C (it := it) 1139 2 (by decide) (by decide +kernel) (by decide +kernel) rfl hX hsb hbb hi hl hL ?_
  refine jcV_I C 1142 (rest := []) (ok_X10_months tx h) (by decide +kernel : decode cL_law 1139 = .ok (.invokevirtual 159, 3)) rfl wd_1084 wd_1085 wd_1086 wd_1 wd_1087 ⟨rfl, rfl⟩ hd_X10_months ⟨Nat.le_of_ble_eq_true rfl, Nat.le_of_ble_eq_true rfl⟩ tx kX10 (by decide) rfl rfl rfl (Nat.le_of_ble_eq_true rfl) ⟨by show _ ≤ 600000; omega, by show _ ≤ 7302250; omega⟩ (fun r S1 h => ?_)
  have hx1 : ext G G := ext.rf
  refine jB C [(.aload_n 2, 1, 0)] 1143 [(3, .int x3), (2, .ref (b + mm)), (1, .ref (b + x)), (0, .ref sb)] [.ref (b + mm), .int r] (by decide +kernel) rfl rfl ?_
  refine jXa C (it := it) 1148 1 (by decide) (by decide +kernel) (by decide +kernel) rfl hX hsb hbb hi hl hL ?_
  refine jXa C (it := it) 1153 2 (by decide) (by decide +kernel) (by decide +kernel) rfl hX hsb hbb hi hl hL ?_
  refine jcV_I C 1156 (rest := [.int r]) (ok_X11_months tm h) (by decide +kernel : decode cL_law 1153 = .ok (.invokevirtual 162, 3)) rfl wd_1826 wd_1827 wd_1828 wd_12 wd_1829 ⟨rfl, rfl⟩ hd_X11_months ⟨Nat.le_of_ble_eq_true rfl, Nat.le_of_ble_eq_true rfl⟩ tm kX11 (by decide) rfl rfl rfl (Nat.le_of_ble_eq_true rfl) ⟨by show _ ≤ 600000; omega, by show _ ≤ 7302250; omega⟩ (fun r2 S2 h => ?_)
  refine jIcmp_eq C 1159 1276 (by decide +kernel : decode cL_law 1156 = .ok (.if_icmp .eq 120, 3)) rfl rfl (fun _ => ?_) (fun c1 => absurd h.1 c1)
  exact jWid (by omega) (by omega) (hK _ _ hx1 h.2)
def lw_36 (G : Gm) (x mm : Nat) (a1 a2 : Int32) (K : Gm → St → Prop) (S : St) : Prop := f_X10_drawn G x a1 a2 (fun r S1 => f_X11_drawn G mm a1 a2 (fun r2 S2 => r = r2 ∧ K G S2) S1) S
set_option maxHeartbeats 4000000 in
set_option maxRecDepth 100000 in
theorem jl_36 {p : Program} {l : Launch} {e : Env} {s : State} {m : MethodId} {below : List Frame} {meth : Method} {c : Code} {b : Nat} {D : va_G} {cy : Nat → ClassId} {rt : Option FieldType} {Z : State → Prop} {cells slots : Nat} {G : Gm} {S : St} {sb L it x mm : Nat} {xs : Nat → Int32} {x3 : Int32} {K : Gm → St → Prop} (C : CX p s m #[.ref sb] meth c b D cy cL_law RL 4 rt) (hX : va_X sb L xs s s.heap) (hsb : sb < s.heap.size) (hbb : b = s.heap.size) (hi : x3 = nI (6 * it)) (hl : 6 * it + 6 ≤ L) (hL : L ≤ 3072) (hcc : cells + 8 ≤ 600000) (hss : slots + 1000 ≤ 7302250) (tx : ok G 9 x) (tm : ok G 10 mm) (h : lw_36 G x mm (xs (6 * it + 1)) (xs (6 * it + 2)) K S) (hK : ∀ G1 S1, ext G G1 → K G1 S1 → J p l e room_1 s m #[.ref sb] below meth c b D cy 4 Z (cells + 8) (slots + 1000) G1 S1 1276 [(3, .int x3), (2, .ref (b + mm)), (1, .ref (b + x)), (0, .ref sb)] []) : J p l e room_1 s m #[.ref sb] below meth c b D cy 4 Z cells slots G S 1161 [(3, .int x3), (2, .ref (b + mm)), (1, .ref (b + x)), (0, .ref sb)] [] := by
  unfold lw_36 at h
  refine jB C [(.aload_n 1, 1, 0)] 1162 [(3, .int x3), (2, .ref (b + mm)), (1, .ref (b + x)), (0, .ref sb)] [.ref (b + x)] (by decide +kernel) rfl rfl ?_
  refine jXa C (it := it) 1167 1 (by decide) (by decide +kernel) (by decide +kernel) rfl hX hsb hbb hi hl hL ?_
  refine jXa C (it := it) 1172 2 (by decide) (by decide +kernel) (by decide +kernel) rfl hX hsb hbb hi hl hL ?_
  refine jcV_I C 1175 (rest := []) (ok_X10_drawn tx h) (by decide +kernel : decode cL_law 1172 = .ok (.invokevirtual 163, 3)) rfl wd_1100 wd_1101 wd_1102 wd_1 wd_1103 ⟨rfl, rfl⟩ hd_X10_drawn ⟨Nat.le_of_ble_eq_true rfl, Nat.le_of_ble_eq_true rfl⟩ tx kX10 (by decide) rfl rfl rfl (Nat.le_of_ble_eq_true rfl) ⟨by show _ ≤ 600000; omega, by show _ ≤ 7302250; omega⟩ (fun r S1 h => ?_)
  have hx1 : ext G G := ext.rf
  refine jB C [(.aload_n 2, 1, 0)] 1176 [(3, .int x3), (2, .ref (b + mm)), (1, .ref (b + x)), (0, .ref sb)] [.ref (b + mm), .int r] (by decide +kernel) rfl rfl ?_
  refine jXa C (it := it) 1181 1 (by decide) (by decide +kernel) (by decide +kernel) rfl hX hsb hbb hi hl hL ?_
  refine jXa C (it := it) 1186 2 (by decide) (by decide +kernel) (by decide +kernel) rfl hX hsb hbb hi hl hL ?_
  refine jcV_I C 1189 (rest := [.int r]) (ok_X11_drawn tm h) (by decide +kernel : decode cL_law 1186 = .ok (.invokevirtual 166, 3)) rfl wd_1837 wd_1838 wd_1839 wd_12 wd_1840 ⟨rfl, rfl⟩ hd_X11_drawn ⟨Nat.le_of_ble_eq_true rfl, Nat.le_of_ble_eq_true rfl⟩ tm kX11 (by decide) rfl rfl rfl (Nat.le_of_ble_eq_true rfl) ⟨by show _ ≤ 600000; omega, by show _ ≤ 7302250; omega⟩ (fun r2 S2 h => ?_)
  refine jIcmp_eq C 1192 1276 (by decide +kernel : decode cL_law 1189 = .ok (.if_icmp .eq 87, 3)) rfl rfl (fun _ => ?_) (fun c1 => absurd h.1 c1)
  exact jWid (by omega) (by omega) (hK _ _ hx1 h.2)
def lw_37 (G : Gm) (x mm : Nat) (a1 : Int32) (K : Gm → St → Prop) (S : St) : Prop := f_X10_image G x a1 (fun r G1 S1 => f_X11_image G1 mm a1 (fun r2 S2 => r = r2 ∧ K G1 S2) S1) S
set_option maxHeartbeats 4000000 in
set_option maxRecDepth 100000 in
theorem jl_37 {p : Program} {l : Launch} {e : Env} {s : State} {m : MethodId} {below : List Frame} {meth : Method} {c : Code} {b : Nat} {D : va_G} {cy : Nat → ClassId} {rt : Option FieldType} {Z : State → Prop} {cells slots : Nat} {G : Gm} {S : St} {sb L it x mm : Nat} {xs : Nat → Int32} {x3 : Int32} {K : Gm → St → Prop} (C : CX p s m #[.ref sb] meth c b D cy cL_law RL 4 rt) (hX : va_X sb L xs s s.heap) (hsb : sb < s.heap.size) (hbb : b = s.heap.size) (hi : x3 = nI (6 * it)) (hl : 6 * it + 6 ≤ L) (hL : L ≤ 3072) (hcc : cells + 8 ≤ 600000) (hss : slots + 1000 ≤ 7302250) (tx : ok G 9 x) (tm : ok G 10 mm) (h : lw_37 G x mm (xs (6 * it + 1)) K S) (hK : ∀ G1 S1, ext G G1 → K G1 S1 → J p l e room_1 s m #[.ref sb] below meth c b D cy 4 Z (cells + 8) (slots + 1000) G1 S1 1276 [(3, .int x3), (2, .ref (b + mm)), (1, .ref (b + x)), (0, .ref sb)] []) : J p l e room_1 s m #[.ref sb] below meth c b D cy 4 Z cells slots G S 1194 [(3, .int x3), (2, .ref (b + mm)), (1, .ref (b + x)), (0, .ref sb)] [] := by
  unfold lw_37 at h
  refine jB C [(.aload_n 1, 1, 0)] 1195 [(3, .int x3), (2, .ref (b + mm)), (1, .ref (b + x)), (0, .ref sb)] [.ref (b + x)] (by decide +kernel) rfl rfl ?_
  refine jXa C (it := it) 1200 1 (by decide) (by decide +kernel) (by decide +kernel) rfl hX hsb hbb hi hl hL ?_
  refine jCallV_I C 1203 (rest := []) (ok_X10_image tx h) (by decide +kernel : decode cL_law 1200 = .ok (.invokevirtual 167, 3)) rfl wd_1104 wd_1105 wd_1106 wd_1 wd_1107 ⟨rfl, rfl⟩ hd_X10_image ⟨Nat.le_of_ble_eq_true rfl, Nat.le_of_ble_eq_true rfl⟩ tx kX10 (by decide) rfl rfl rfl (Nat.le_of_ble_eq_true rfl) ⟨by show _ ≤ 600000; omega, by show _ ≤ 7302250; omega⟩ (fun r G1 S1 h => ?_)
  obtain ⟨hx1, h⟩ := h
  have tm := hx1.ok tm
  refine jB C [(.aload_n 2, 1, 0)] 1204 [(3, .int x3), (2, .ref (b + mm)), (1, .ref (b + x)), (0, .ref sb)] [.ref (b + mm), .int r] (by decide +kernel) rfl rfl ?_
  refine jXa C (it := it) 1209 1 (by decide) (by decide +kernel) (by decide +kernel) rfl hX hsb hbb hi hl hL ?_
  refine jcV_I C 1212 (rest := [.int r]) (ok_X11_image tm h) (by decide +kernel : decode cL_law 1209 = .ok (.invokevirtual 170, 3)) rfl wd_1348 wd_1349 wd_1350 wd_12 wd_1351 ⟨rfl, rfl⟩ hd_X11_image ⟨Nat.le_of_ble_eq_true rfl, Nat.le_of_ble_eq_true rfl⟩ tm kX11 (by decide) rfl rfl rfl (Nat.le_of_ble_eq_true rfl) ⟨by show _ ≤ 600000; omega, by show _ ≤ 7302250; omega⟩ (fun r2 S2 h => ?_)
  refine jIcmp_eq C 1215 1276 (by decide +kernel : decode cL_law 1212 = .ok (.if_icmp .eq 64, 3)) rfl rfl (fun _ => ?_) (fun c1 => absurd h.1 c1)
  exact jWid (by omega) (by omega) (hK _ _ hx1 h.2)
def lw_38 (G : Gm) (x mm : Nat) (a1 : Int32) (K : Gm → St → Prop) (S : St) : Prop := f_X10_back G x a1 (fun r S1 => f_X11_back G mm a1 (fun r2 S2 => r = r2 ∧ K G S2) S1) S
set_option maxHeartbeats 4000000 in
set_option maxRecDepth 100000 in
theorem jl_38 {p : Program} {l : Launch} {e : Env} {s : State} {m : MethodId} {below : List Frame} {meth : Method} {c : Code} {b : Nat} {D : va_G} {cy : Nat → ClassId} {rt : Option FieldType} {Z : State → Prop} {cells slots : Nat} {G : Gm} {S : St} {sb L it x mm : Nat} {xs : Nat → Int32} {x3 : Int32} {K : Gm → St → Prop} (C : CX p s m #[.ref sb] meth c b D cy cL_law RL 4 rt) (hX : va_X sb L xs s s.heap) (hsb : sb < s.heap.size) (hbb : b = s.heap.size) (hi : x3 = nI (6 * it)) (hl : 6 * it + 6 ≤ L) (hL : L ≤ 3072) (hcc : cells + 8 ≤ 600000) (hss : slots + 1000 ≤ 7302250) (tx : ok G 9 x) (tm : ok G 10 mm) (h : lw_38 G x mm (xs (6 * it + 1)) K S) (hK : ∀ G1 S1, ext G G1 → K G1 S1 → J p l e room_1 s m #[.ref sb] below meth c b D cy 4 Z (cells + 8) (slots + 1000) G1 S1 1276 [(3, .int x3), (2, .ref (b + mm)), (1, .ref (b + x)), (0, .ref sb)] []) : J p l e room_1 s m #[.ref sb] below meth c b D cy 4 Z cells slots G S 1217 [(3, .int x3), (2, .ref (b + mm)), (1, .ref (b + x)), (0, .ref sb)] [] := by
  unfold lw_38 at h
  refine jB C [(.aload_n 1, 1, 0)] 1218 [(3, .int x3), (2, .ref (b + mm)), (1, .ref (b + x)), (0, .ref sb)] [.ref (b + x)] (by decide +kernel) rfl rfl ?_
  refine jXa C (it := it) 1223 1 (by decide) (by decide +kernel) (by decide +kernel) rfl hX hsb hbb hi hl hL ?_
  refine jcV_I C 1226 (rest := []) (ok_X10_back tx h) (by decide +kernel : decode cL_law 1223 = .ok (.invokevirtual 171, 3)) rfl wd_1108 wd_1109 wd_1110 wd_1 wd_1111 ⟨rfl, rfl⟩ hd_X10_back ⟨Nat.le_of_ble_eq_true rfl, Nat.le_of_ble_eq_true rfl⟩ tx kX10 (by decide) rfl rfl rfl (Nat.le_of_ble_eq_true rfl) ⟨by show _ ≤ 600000; omega, by show _ ≤ 7302250; omega⟩ (fun r S1 h => ?_)
  have hx1 : ext G G := ext.rf
  refine jB C [(.aload_n 2, 1, 0)] 1227 [(3, .int x3), (2, .ref (b + mm)), (1, .ref (b + x)), (0, .ref sb)] [.ref (b + mm), .int r] (by decide +kernel) rfl rfl ?_
  refine jXa C (it := it) 1232 1 (by decide) (by decide +kernel) (by decide +kernel) rfl hX hsb hbb hi hl hL ?_
  refine jcV_I C 1235 (rest := [.int r]) (ok_X11_back tm h) (by decide +kernel : decode cL_law 1232 = .ok (.invokevirtual 174, 3)) rfl wd_1355 wd_1356 wd_1357 wd_12 wd_1358 ⟨rfl, rfl⟩ hd_X11_back ⟨Nat.le_of_ble_eq_true rfl, Nat.le_of_ble_eq_true rfl⟩ tm kX11 (by decide) rfl rfl rfl (Nat.le_of_ble_eq_true rfl) ⟨by show _ ≤ 600000; omega, by show _ ≤ 7302250; omega⟩ (fun r2 S2 h => ?_)
  refine jIcmp_eq C 1238 1276 (by decide +kernel : decode cL_law 1235 = .ok (.if_icmp .eq 41, 3)) rfl rfl (fun _ => ?_) (fun c1 => absurd h.1 c1)
  exact jWid (by omega) (by omega) (hK _ _ hx1 h.2)
def lw_39 (G : Gm) (x mm : Nat) (a1 : Int32) (K : Gm → St → Prop) (S : St) : Prop := f_X10_count G x a1 (fun r S1 => f_X11_count G mm a1 (fun r2 S2 => r = r2 ∧ K G S2) S1) S
set_option maxHeartbeats 4000000 in
set_option maxRecDepth 100000 in
theorem jl_39 {p : Program} {l : Launch} {e : Env} {s : State} {m : MethodId} {below : List Frame} {meth : Method} {c : Code} {b : Nat} {D : va_G} {cy : Nat → ClassId} {rt : Option FieldType} {Z : State → Prop} {cells slots : Nat} {G : Gm} {S : St} {sb L it x mm : Nat} {xs : Nat → Int32} {x3 : Int32} {K : Gm → St → Prop} (C : CX p s m #[.ref sb] meth c b D cy cL_law RL 4 rt) (hX : va_X sb L xs s s.heap) (hsb : sb < s.heap.size) (hbb : b = s.heap.size) (hi : x3 = nI (6 * it)) (hl : 6 * it + 6 ≤ L) (hL : L ≤ 3072) (hcc : cells + 8 ≤ 600000) (hss : slots + 1000 ≤ 7302250) (tx : ok G 9 x) (tm : ok G 10 mm) (h : lw_39 G x mm (xs (6 * it + 1)) K S) (hK : ∀ G1 S1, ext G G1 → K G1 S1 → J p l e room_1 s m #[.ref sb] below meth c b D cy 4 Z (cells + 8) (slots + 1000) G1 S1 1276 [(3, .int x3), (2, .ref (b + mm)), (1, .ref (b + x)), (0, .ref sb)] []) : J p l e room_1 s m #[.ref sb] below meth c b D cy 4 Z cells slots G S 1240 [(3, .int x3), (2, .ref (b + mm)), (1, .ref (b + x)), (0, .ref sb)] [] := by
  unfold lw_39 at h
  refine jB C [(.aload_n 1, 1, 0)] 1241 [(3, .int x3), (2, .ref (b + mm)), (1, .ref (b + x)), (0, .ref sb)] [.ref (b + x)] (by decide +kernel) rfl rfl ?_
  refine jXa C (it := it) 1246 1 (by decide) (by decide +kernel) (by decide +kernel) rfl hX hsb hbb hi hl hL ?_
  refine jcV_I C 1249 (rest := []) (ok_X10_count tx h) (by decide +kernel : decode cL_law 1246 = .ok (.invokevirtual 175, 3)) rfl wd_1112 wd_1113 wd_1114 wd_1 wd_1115 ⟨rfl, rfl⟩ hd_X10_count ⟨Nat.le_of_ble_eq_true rfl, Nat.le_of_ble_eq_true rfl⟩ tx kX10 (by decide) rfl rfl rfl (Nat.le_of_ble_eq_true rfl) ⟨by show _ ≤ 600000; omega, by show _ ≤ 7302250; omega⟩ (fun r S1 h => ?_)
  have hx1 : ext G G := ext.rf
  refine jB C [(.aload_n 2, 1, 0)] 1250 [(3, .int x3), (2, .ref (b + mm)), (1, .ref (b + x)), (0, .ref sb)] [.ref (b + mm), .int r] (by decide +kernel) rfl rfl ?_
  refine jXa C (it := it) 1255 1 (by decide) (by decide +kernel) (by decide +kernel) rfl hX hsb hbb hi hl hL ?_
  refine jcV_I C 1258 (rest := [.int r]) (ok_X11_count tm h) (by decide +kernel : decode cL_law 1255 = .ok (.invokevirtual 178, 3)) rfl wd_1841 wd_1842 wd_1843 wd_12 wd_1844 ⟨rfl, rfl⟩ hd_X11_count ⟨Nat.le_of_ble_eq_true rfl, Nat.le_of_ble_eq_true rfl⟩ tm kX11 (by decide) rfl rfl rfl (Nat.le_of_ble_eq_true rfl) ⟨by show _ ≤ 600000; omega, by show _ ≤ 7302250; omega⟩ (fun r2 S2 h => ?_)
  refine jIcmp_eq C 1261 1276 (by decide +kernel : decode cL_law 1258 = .ok (.if_icmp .eq 18, 3)) rfl rfl (fun _ => ?_) (fun c1 => absurd h.1 c1)
  exact jWid (by omega) (by omega) (hK _ _ hx1 h.2)
def lw_40 (G : Gm) (x mm : Nat) (K : Gm → St → Prop) (S : St) : Prop := f_X10_status G x (fun r S1 => f_X11_status G mm (fun r2 S2 => r = r2 ∧ K G S2) S1) S
set_option maxHeartbeats 4000000 in
set_option maxRecDepth 100000 in
theorem jl_40 {p : Program} {l : Launch} {e : Env} {s : State} {m : MethodId} {below : List Frame} {meth : Method} {c : Code} {b : Nat} {D : va_G} {cy : Nat → ClassId} {rt : Option FieldType} {Z : State → Prop} {cells slots : Nat} {G : Gm} {S : St} {sb L it x mm : Nat} {xs : Nat → Int32} {x3 : Int32} {K : Gm → St → Prop} (C : CX p s m #[.ref sb] meth c b D cy cL_law RL 4 rt) (hX : va_X sb L xs s s.heap) (hsb : sb < s.heap.size) (hbb : b = s.heap.size) (hi : x3 = nI (6 * it)) (hl : 6 * it + 6 ≤ L) (hL : L ≤ 3072) (hcc : cells + 8 ≤ 600000) (hss : slots + 1000 ≤ 7302250) (tx : ok G 9 x) (tm : ok G 10 mm) (h : lw_40 G x mm K S) (hK : ∀ G1 S1, ext G G1 → K G1 S1 → J p l e room_1 s m #[.ref sb] below meth c b D cy 4 Z (cells + 8) (slots + 1000) G1 S1 1276 [(3, .int x3), (2, .ref (b + mm)), (1, .ref (b + x)), (0, .ref sb)] []) : J p l e room_1 s m #[.ref sb] below meth c b D cy 4 Z cells slots G S 1263 [(3, .int x3), (2, .ref (b + mm)), (1, .ref (b + x)), (0, .ref sb)] [] := by
  unfold lw_40 at h
  refine jB C [(.aload_n 1, 1, 0)] 1264 [(3, .int x3), (2, .ref (b + mm)), (1, .ref (b + x)), (0, .ref sb)] [.ref (b + x)] (by decide +kernel) rfl rfl ?_
  refine jcV_I C 1267 (rest := []) (ok_X10_status tx h) (by decide +kernel : decode cL_law 1264 = .ok (.invokevirtual 179, 3)) rfl wd_1121 wd_1122 wd_1123 wd_1 wd_1124 ⟨rfl, rfl⟩ hd_X10_status ⟨Nat.le_of_ble_eq_true rfl, Nat.le_of_ble_eq_true rfl⟩ tx kX10 (by decide) rfl rfl rfl (Nat.le_of_ble_eq_true rfl) ⟨by show _ ≤ 600000; omega, by show _ ≤ 7302250; omega⟩ (fun r S1 h => ?_)
  have hx1 : ext G G := ext.rf
  refine jB C [(.aload_n 2, 1, 0)] 1268 [(3, .int x3), (2, .ref (b + mm)), (1, .ref (b + x)), (0, .ref sb)] [.ref (b + mm), .int r] (by decide +kernel) rfl rfl ?_
  refine jcV_I C 1271 (rest := [.int r]) (ok_X11_status tm h) (by decide +kernel : decode cL_law 1268 = .ok (.invokevirtual 182, 3)) rfl wd_1851 wd_1852 wd_1853 wd_12 wd_1854 ⟨rfl, rfl⟩ hd_X11_status ⟨Nat.le_of_ble_eq_true rfl, Nat.le_of_ble_eq_true rfl⟩ tm kX11 (by decide) rfl rfl rfl (Nat.le_of_ble_eq_true rfl) ⟨by show _ ≤ 600000; omega, by show _ ≤ 7302250; omega⟩ (fun r2 S2 h => ?_)
  refine jIcmp_eq C 1274 1276 (by decide +kernel : decode cL_law 1271 = .ok (.if_icmp .eq 5, 3)) rfl rfl (fun _ => ?_) (fun c1 => absurd h.1 c1)
  exact jWid (by omega) (by omega) (hK _ _ hx1 h.2)
def lawStep (G : Gm) (x mm : Nat) (op a1 a2 a3 a4 a5 : Int32) (K : Gm → St → Prop) (S : St) : Prop := if op = 0 then lw_0 G x mm K S else if op = 1 then lw_1 G x mm a1 a2 K S else if op = 2 then lw_2 G x mm a1 a2 a3 K S else if op = 3 then lw_3 G x mm a1 a2 K S else if op = 4 then lw_4 G x mm a1 a2 K S else if op = 5 then lw_5 G x mm a1 a2 K S else if op = 6 then lw_6 G x mm a1 a2 K S else if op = 7 then lw_7 G x mm a1 a2 a3 a4 a5 K S else if op = 8 then lw_8 G x mm a1 K S else if op = 9 then lw_9 G x mm K S else if op = 10 then lw_10 G x mm K S else if op = 11 then lw_11 G x mm K S else if op = 12 then lw_12 G x mm K S else if op = 13 then lw_13 G x mm K S else if op = 14 then lw_14 G x mm K S else if op = 15 then lw_15 G x mm a1 K S else if op = 16 then lw_16 G x mm a1 a2 a3 K S else if op = 17 then lw_17 G x mm a1 K S else if op = 18 then lw_18 G x mm a1 a2 K S else if op = 19 then lw_19 G x mm a1 K S else if op = 20 then lw_20 G x mm K S else if op = 21 then lw_21 G x mm K S else if op = 22 then lw_22 G x mm a1 a2 K S else if op = 23 then lw_23 G x mm a1 a2 K S else if op = 24 then lw_24 G x mm K S else if op = 25 then lw_25 G x mm a1 K S else if op = 26 then lw_26 G x mm a1 K S else if op = 27 then lw_27 G x mm a1 K S else if op = 28 then lw_28 G x mm a1 K S else if op = 29 then lw_29 G x mm a1 a2 a3 K S else if op = 30 then lw_30 G x mm a1 a2 K S else if op = 31 then lw_31 G x mm a1 K S else if op = 32 then lw_32 G x mm a1 a2 K S else if op = 33 then lw_33 G x mm a1 K S else if op = 34 then lw_34 G x mm a1 a2 K S else if op = 35 then lw_35 G x mm a1 a2 K S else if op = 36 then lw_36 G x mm a1 a2 K S else if op = 37 then lw_37 G x mm a1 K S else if op = 38 then lw_38 G x mm a1 K S else if op = 39 then lw_39 G x mm a1 K S else if op = 40 then lw_40 G x mm K S else K G S
def lawRun (xs : Nat → Int32) (x mm : Nat) : Nat → Nat → Gm → St → Prop
  | 0, _, _, _ => True
  | n + 1, it, G, S => lawStep G x mm (xs (6 * it) &&& 63) (xs (6 * it + 1)) (xs (6 * it + 2)) (xs (6 * it + 3)) (xs (6 * it + 4)) (xs (6 * it + 5)) (fun G1 S1 => lawRun xs x mm n (it + 1) G1 S1) S
set_option maxHeartbeats 8000000 in
set_option maxRecDepth 100000 in
theorem jl_step {p : Program} {l : Launch} {e : Env} {s : State} {m : MethodId} {below : List Frame} {meth : Method} {c : Code} {b : Nat} {D : va_G} {cy : Nat → ClassId} {rt : Option FieldType} {Z : State → Prop} {cells slots : Nat} {G : Gm} {S : St} {sb L it x mm : Nat} {xs : Nat → Int32} {x3 : Int32} {K : Gm → St → Prop} {op : Int32} (C : CX p s m #[.ref sb] meth c b D cy cL_law RL 4 rt) (hX : va_X sb L xs s s.heap) (hsb : sb < s.heap.size) (hbb : b = s.heap.size) (hi : x3 = nI (6 * it)) (hl : 6 * it + 6 ≤ L) (hL : L ≤ 3072) (hcc : cells + 8 ≤ 600000) (hss : slots + 1000 ≤ 7302250) (tx : ok G 9 x) (tm : ok G 10 mm) (h : lawStep G x mm op (xs (6 * it + 1)) (xs (6 * it + 2)) (xs (6 * it + 3)) (xs (6 * it + 4)) (xs (6 * it + 5)) K S) (hK : ∀ G1 S1, ext G G1 → K G1 S1 → J p l e room_1 s m #[.ref sb] below meth c b D cy 4 Z (cells + 8) (slots + 1000) G1 S1 1276 [(3, .int x3), (2, .ref (b + mm)), (1, .ref (b + x)), (0, .ref sb)] []) : J p l e room_1 s m #[.ref sb] below meth c b D cy 4 Z cells slots G S 33 [(3, .int x3), (2, .ref (b + mm)), (1, .ref (b + x)), (0, .ref sb)] [.int op] := by
  unfold lawStep at h
  by_cases c_0 : op = 0
  · exact jTabIn C 212 0 (by decide +kernel : decode cL_law 33 = .ok (.tableswitch 1243 0 40 #[179, 192, 225, 268, 301, 334, 367, 400, 463, 486, 499, 512, 525, 538, 551, 564, 587, 630, 653, 686, 709, 722, 735, 768, 801, 814, 837, 860, 883, 906, 949, 982, 1005, 1038, 1061, 1095, 1128, 1161, 1184, 1207, 1230], 179)) c_0 ⟨rfl, rfl, rfl, rfl⟩ (jl_0 C hX hsb hbb hi hl hL hcc hss tx tm (it1 h c_0) hK)
  replace h := it2 h c_0
  by_cases c_1 : op = 1
  · exact jTabIn C 225 1 (by decide +kernel : decode cL_law 33 = .ok (.tableswitch 1243 0 40 #[179, 192, 225, 268, 301, 334, 367, 400, 463, 486, 499, 512, 525, 538, 551, 564, 587, 630, 653, 686, 709, 722, 735, 768, 801, 814, 837, 860, 883, 906, 949, 982, 1005, 1038, 1061, 1095, 1128, 1161, 1184, 1207, 1230], 179)) c_1 ⟨rfl, rfl, rfl, rfl⟩ (jl_1 C hX hsb hbb hi hl hL hcc hss tx tm (it1 h c_1) hK)
  replace h := it2 h c_1
  by_cases c_2 : op = 2
  · exact jTabIn C 258 2 (by decide +kernel : decode cL_law 33 = .ok (.tableswitch 1243 0 40 #[179, 192, 225, 268, 301, 334, 367, 400, 463, 486, 499, 512, 525, 538, 551, 564, 587, 630, 653, 686, 709, 722, 735, 768, 801, 814, 837, 860, 883, 906, 949, 982, 1005, 1038, 1061, 1095, 1128, 1161, 1184, 1207, 1230], 179)) c_2 ⟨rfl, rfl, rfl, rfl⟩ (jl_2 C hX hsb hbb hi hl hL hcc hss tx tm (it1 h c_2) hK)
  replace h := it2 h c_2
  by_cases c_3 : op = 3
  · exact jTabIn C 301 3 (by decide +kernel : decode cL_law 33 = .ok (.tableswitch 1243 0 40 #[179, 192, 225, 268, 301, 334, 367, 400, 463, 486, 499, 512, 525, 538, 551, 564, 587, 630, 653, 686, 709, 722, 735, 768, 801, 814, 837, 860, 883, 906, 949, 982, 1005, 1038, 1061, 1095, 1128, 1161, 1184, 1207, 1230], 179)) c_3 ⟨rfl, rfl, rfl, rfl⟩ (jl_3 C hX hsb hbb hi hl hL hcc hss tx tm (it1 h c_3) hK)
  replace h := it2 h c_3
  by_cases c_4 : op = 4
  · exact jTabIn C 334 4 (by decide +kernel : decode cL_law 33 = .ok (.tableswitch 1243 0 40 #[179, 192, 225, 268, 301, 334, 367, 400, 463, 486, 499, 512, 525, 538, 551, 564, 587, 630, 653, 686, 709, 722, 735, 768, 801, 814, 837, 860, 883, 906, 949, 982, 1005, 1038, 1061, 1095, 1128, 1161, 1184, 1207, 1230], 179)) c_4 ⟨rfl, rfl, rfl, rfl⟩ (jl_4 C hX hsb hbb hi hl hL hcc hss tx tm (it1 h c_4) hK)
  replace h := it2 h c_4
  by_cases c_5 : op = 5
  · exact jTabIn C 367 5 (by decide +kernel : decode cL_law 33 = .ok (.tableswitch 1243 0 40 #[179, 192, 225, 268, 301, 334, 367, 400, 463, 486, 499, 512, 525, 538, 551, 564, 587, 630, 653, 686, 709, 722, 735, 768, 801, 814, 837, 860, 883, 906, 949, 982, 1005, 1038, 1061, 1095, 1128, 1161, 1184, 1207, 1230], 179)) c_5 ⟨rfl, rfl, rfl, rfl⟩ (jl_5 C hX hsb hbb hi hl hL hcc hss tx tm (it1 h c_5) hK)
  replace h := it2 h c_5
  by_cases c_6 : op = 6
  · exact jTabIn C 400 6 (by decide +kernel : decode cL_law 33 = .ok (.tableswitch 1243 0 40 #[179, 192, 225, 268, 301, 334, 367, 400, 463, 486, 499, 512, 525, 538, 551, 564, 587, 630, 653, 686, 709, 722, 735, 768, 801, 814, 837, 860, 883, 906, 949, 982, 1005, 1038, 1061, 1095, 1128, 1161, 1184, 1207, 1230], 179)) c_6 ⟨rfl, rfl, rfl, rfl⟩ (jl_6 C hX hsb hbb hi hl hL hcc hss tx tm (it1 h c_6) hK)
  replace h := it2 h c_6
  by_cases c_7 : op = 7
  · exact jTabIn C 433 7 (by decide +kernel : decode cL_law 33 = .ok (.tableswitch 1243 0 40 #[179, 192, 225, 268, 301, 334, 367, 400, 463, 486, 499, 512, 525, 538, 551, 564, 587, 630, 653, 686, 709, 722, 735, 768, 801, 814, 837, 860, 883, 906, 949, 982, 1005, 1038, 1061, 1095, 1128, 1161, 1184, 1207, 1230], 179)) c_7 ⟨rfl, rfl, rfl, rfl⟩ (jl_7 C hX hsb hbb hi hl hL hcc hss tx tm (it1 h c_7) hK)
  replace h := it2 h c_7
  by_cases c_8 : op = 8
  · exact jTabIn C 496 8 (by decide +kernel : decode cL_law 33 = .ok (.tableswitch 1243 0 40 #[179, 192, 225, 268, 301, 334, 367, 400, 463, 486, 499, 512, 525, 538, 551, 564, 587, 630, 653, 686, 709, 722, 735, 768, 801, 814, 837, 860, 883, 906, 949, 982, 1005, 1038, 1061, 1095, 1128, 1161, 1184, 1207, 1230], 179)) c_8 ⟨rfl, rfl, rfl, rfl⟩ (jl_8 C hX hsb hbb hi hl hL hcc hss tx tm (it1 h c_8) hK)
  replace h := it2 h c_8
  by_cases c_9 : op = 9
  · exact jTabIn C 519 9 (by decide +kernel : decode cL_law 33 = .ok (.tableswitch 1243 0 40 #[179, 192, 225, 268, 301, 334, 367, 400, 463, 486, 499, 512, 525, 538, 551, 564, 587, 630, 653, 686, 709, 722, 735, 768, 801, 814, 837, 860, 883, 906, 949, 982, 1005, 1038, 1061, 1095, 1128, 1161, 1184, 1207, 1230], 179)) c_9 ⟨rfl, rfl, rfl, rfl⟩ (jl_9 C hX hsb hbb hi hl hL hcc hss tx tm (it1 h c_9) hK)
  replace h := it2 h c_9
  by_cases c_10 : op = 10
  · exact jTabIn C 532 10 (by decide +kernel : decode cL_law 33 = .ok (.tableswitch 1243 0 40 #[179, 192, 225, 268, 301, 334, 367, 400, 463, 486, 499, 512, 525, 538, 551, 564, 587, 630, 653, 686, 709, 722, 735, 768, 801, 814, 837, 860, 883, 906, 949, 982, 1005, 1038, 1061, 1095, 1128, 1161, 1184, 1207, 1230], 179)) c_10 ⟨rfl, rfl, rfl, rfl⟩ (jl_10 C hX hsb hbb hi hl hL hcc hss tx tm (it1 h c_10) hK)
  replace h := it2 h c_10
  by_cases c_11 : op = 11
  · exact jTabIn C 545 11 (by decide +kernel : decode cL_law 33 = .ok (.tableswitch 1243 0 40 #[179, 192, 225, 268, 301, 334, 367, 400, 463, 486, 499, 512, 525, 538, 551, 564, 587, 630, 653, 686, 709, 722, 735, 768, 801, 814, 837, 860, 883, 906, 949, 982, 1005, 1038, 1061, 1095, 1128, 1161, 1184, 1207, 1230], 179)) c_11 ⟨rfl, rfl, rfl, rfl⟩ (jl_11 C hX hsb hbb hi hl hL hcc hss tx tm (it1 h c_11) hK)
  replace h := it2 h c_11
  by_cases c_12 : op = 12
  · exact jTabIn C 558 12 (by decide +kernel : decode cL_law 33 = .ok (.tableswitch 1243 0 40 #[179, 192, 225, 268, 301, 334, 367, 400, 463, 486, 499, 512, 525, 538, 551, 564, 587, 630, 653, 686, 709, 722, 735, 768, 801, 814, 837, 860, 883, 906, 949, 982, 1005, 1038, 1061, 1095, 1128, 1161, 1184, 1207, 1230], 179)) c_12 ⟨rfl, rfl, rfl, rfl⟩ (jl_12 C hX hsb hbb hi hl hL hcc hss tx tm (it1 h c_12) hK)
  replace h := it2 h c_12
  by_cases c_13 : op = 13
  · exact jTabIn C 571 13 (by decide +kernel : decode cL_law 33 = .ok (.tableswitch 1243 0 40 #[179, 192, 225, 268, 301, 334, 367, 400, 463, 486, 499, 512, 525, 538, 551, 564, 587, 630, 653, 686, 709, 722, 735, 768, 801, 814, 837, 860, 883, 906, 949, 982, 1005, 1038, 1061, 1095, 1128, 1161, 1184, 1207, 1230], 179)) c_13 ⟨rfl, rfl, rfl, rfl⟩ (jl_13 C hX hsb hbb hi hl hL hcc hss tx tm (it1 h c_13) hK)
  replace h := it2 h c_13
  by_cases c_14 : op = 14
  · exact jTabIn C 584 14 (by decide +kernel : decode cL_law 33 = .ok (.tableswitch 1243 0 40 #[179, 192, 225, 268, 301, 334, 367, 400, 463, 486, 499, 512, 525, 538, 551, 564, 587, 630, 653, 686, 709, 722, 735, 768, 801, 814, 837, 860, 883, 906, 949, 982, 1005, 1038, 1061, 1095, 1128, 1161, 1184, 1207, 1230], 179)) c_14 ⟨rfl, rfl, rfl, rfl⟩ (jl_14 C hX hsb hbb hi hl hL hcc hss tx tm (it1 h c_14) hK)
  replace h := it2 h c_14
  by_cases c_15 : op = 15
  · exact jTabIn C 597 15 (by decide +kernel : decode cL_law 33 = .ok (.tableswitch 1243 0 40 #[179, 192, 225, 268, 301, 334, 367, 400, 463, 486, 499, 512, 525, 538, 551, 564, 587, 630, 653, 686, 709, 722, 735, 768, 801, 814, 837, 860, 883, 906, 949, 982, 1005, 1038, 1061, 1095, 1128, 1161, 1184, 1207, 1230], 179)) c_15 ⟨rfl, rfl, rfl, rfl⟩ (jl_15 C hX hsb hbb hi hl hL hcc hss tx tm (it1 h c_15) hK)
  replace h := it2 h c_15
  by_cases c_16 : op = 16
  · exact jTabIn C 620 16 (by decide +kernel : decode cL_law 33 = .ok (.tableswitch 1243 0 40 #[179, 192, 225, 268, 301, 334, 367, 400, 463, 486, 499, 512, 525, 538, 551, 564, 587, 630, 653, 686, 709, 722, 735, 768, 801, 814, 837, 860, 883, 906, 949, 982, 1005, 1038, 1061, 1095, 1128, 1161, 1184, 1207, 1230], 179)) c_16 ⟨rfl, rfl, rfl, rfl⟩ (jl_16 C hX hsb hbb hi hl hL hcc hss tx tm (it1 h c_16) hK)
  replace h := it2 h c_16
  by_cases c_17 : op = 17
  · exact jTabIn C 663 17 (by decide +kernel : decode cL_law 33 = .ok (.tableswitch 1243 0 40 #[179, 192, 225, 268, 301, 334, 367, 400, 463, 486, 499, 512, 525, 538, 551, 564, 587, 630, 653, 686, 709, 722, 735, 768, 801, 814, 837, 860, 883, 906, 949, 982, 1005, 1038, 1061, 1095, 1128, 1161, 1184, 1207, 1230], 179)) c_17 ⟨rfl, rfl, rfl, rfl⟩ (jl_17 C hX hsb hbb hi hl hL hcc hss tx tm (it1 h c_17) hK)
  replace h := it2 h c_17
  by_cases c_18 : op = 18
  · exact jTabIn C 686 18 (by decide +kernel : decode cL_law 33 = .ok (.tableswitch 1243 0 40 #[179, 192, 225, 268, 301, 334, 367, 400, 463, 486, 499, 512, 525, 538, 551, 564, 587, 630, 653, 686, 709, 722, 735, 768, 801, 814, 837, 860, 883, 906, 949, 982, 1005, 1038, 1061, 1095, 1128, 1161, 1184, 1207, 1230], 179)) c_18 ⟨rfl, rfl, rfl, rfl⟩ (jl_18 C hX hsb hbb hi hl hL hcc hss tx tm (it1 h c_18) hK)
  replace h := it2 h c_18
  by_cases c_19 : op = 19
  · exact jTabIn C 719 19 (by decide +kernel : decode cL_law 33 = .ok (.tableswitch 1243 0 40 #[179, 192, 225, 268, 301, 334, 367, 400, 463, 486, 499, 512, 525, 538, 551, 564, 587, 630, 653, 686, 709, 722, 735, 768, 801, 814, 837, 860, 883, 906, 949, 982, 1005, 1038, 1061, 1095, 1128, 1161, 1184, 1207, 1230], 179)) c_19 ⟨rfl, rfl, rfl, rfl⟩ (jl_19 C hX hsb hbb hi hl hL hcc hss tx tm (it1 h c_19) hK)
  replace h := it2 h c_19
  by_cases c_20 : op = 20
  · exact jTabIn C 742 20 (by decide +kernel : decode cL_law 33 = .ok (.tableswitch 1243 0 40 #[179, 192, 225, 268, 301, 334, 367, 400, 463, 486, 499, 512, 525, 538, 551, 564, 587, 630, 653, 686, 709, 722, 735, 768, 801, 814, 837, 860, 883, 906, 949, 982, 1005, 1038, 1061, 1095, 1128, 1161, 1184, 1207, 1230], 179)) c_20 ⟨rfl, rfl, rfl, rfl⟩ (jl_20 C hX hsb hbb hi hl hL hcc hss tx tm (it1 h c_20) hK)
  replace h := it2 h c_20
  by_cases c_21 : op = 21
  · exact jTabIn C 755 21 (by decide +kernel : decode cL_law 33 = .ok (.tableswitch 1243 0 40 #[179, 192, 225, 268, 301, 334, 367, 400, 463, 486, 499, 512, 525, 538, 551, 564, 587, 630, 653, 686, 709, 722, 735, 768, 801, 814, 837, 860, 883, 906, 949, 982, 1005, 1038, 1061, 1095, 1128, 1161, 1184, 1207, 1230], 179)) c_21 ⟨rfl, rfl, rfl, rfl⟩ (jl_21 C hX hsb hbb hi hl hL hcc hss tx tm (it1 h c_21) hK)
  replace h := it2 h c_21
  by_cases c_22 : op = 22
  · exact jTabIn C 768 22 (by decide +kernel : decode cL_law 33 = .ok (.tableswitch 1243 0 40 #[179, 192, 225, 268, 301, 334, 367, 400, 463, 486, 499, 512, 525, 538, 551, 564, 587, 630, 653, 686, 709, 722, 735, 768, 801, 814, 837, 860, 883, 906, 949, 982, 1005, 1038, 1061, 1095, 1128, 1161, 1184, 1207, 1230], 179)) c_22 ⟨rfl, rfl, rfl, rfl⟩ (jl_22 C hX hsb hbb hi hl hL hcc hss tx tm (it1 h c_22) hK)
  replace h := it2 h c_22
  by_cases c_23 : op = 23
  · exact jTabIn C 801 23 (by decide +kernel : decode cL_law 33 = .ok (.tableswitch 1243 0 40 #[179, 192, 225, 268, 301, 334, 367, 400, 463, 486, 499, 512, 525, 538, 551, 564, 587, 630, 653, 686, 709, 722, 735, 768, 801, 814, 837, 860, 883, 906, 949, 982, 1005, 1038, 1061, 1095, 1128, 1161, 1184, 1207, 1230], 179)) c_23 ⟨rfl, rfl, rfl, rfl⟩ (jl_23 C hX hsb hbb hi hl hL hcc hss tx tm (it1 h c_23) hK)
  replace h := it2 h c_23
  by_cases c_24 : op = 24
  · exact jTabIn C 834 24 (by decide +kernel : decode cL_law 33 = .ok (.tableswitch 1243 0 40 #[179, 192, 225, 268, 301, 334, 367, 400, 463, 486, 499, 512, 525, 538, 551, 564, 587, 630, 653, 686, 709, 722, 735, 768, 801, 814, 837, 860, 883, 906, 949, 982, 1005, 1038, 1061, 1095, 1128, 1161, 1184, 1207, 1230], 179)) c_24 ⟨rfl, rfl, rfl, rfl⟩ (jl_24 C hX hsb hbb hi hl hL hcc hss tx tm (it1 h c_24) hK)
  replace h := it2 h c_24
  by_cases c_25 : op = 25
  · exact jTabIn C 847 25 (by decide +kernel : decode cL_law 33 = .ok (.tableswitch 1243 0 40 #[179, 192, 225, 268, 301, 334, 367, 400, 463, 486, 499, 512, 525, 538, 551, 564, 587, 630, 653, 686, 709, 722, 735, 768, 801, 814, 837, 860, 883, 906, 949, 982, 1005, 1038, 1061, 1095, 1128, 1161, 1184, 1207, 1230], 179)) c_25 ⟨rfl, rfl, rfl, rfl⟩ (jl_25 C hX hsb hbb hi hl hL hcc hss tx tm (it1 h c_25) hK)
  replace h := it2 h c_25
  by_cases c_26 : op = 26
  · exact jTabIn C 870 26 (by decide +kernel : decode cL_law 33 = .ok (.tableswitch 1243 0 40 #[179, 192, 225, 268, 301, 334, 367, 400, 463, 486, 499, 512, 525, 538, 551, 564, 587, 630, 653, 686, 709, 722, 735, 768, 801, 814, 837, 860, 883, 906, 949, 982, 1005, 1038, 1061, 1095, 1128, 1161, 1184, 1207, 1230], 179)) c_26 ⟨rfl, rfl, rfl, rfl⟩ (jl_26 C hX hsb hbb hi hl hL hcc hss tx tm (it1 h c_26) hK)
  replace h := it2 h c_26
  by_cases c_27 : op = 27
  · exact jTabIn C 893 27 (by decide +kernel : decode cL_law 33 = .ok (.tableswitch 1243 0 40 #[179, 192, 225, 268, 301, 334, 367, 400, 463, 486, 499, 512, 525, 538, 551, 564, 587, 630, 653, 686, 709, 722, 735, 768, 801, 814, 837, 860, 883, 906, 949, 982, 1005, 1038, 1061, 1095, 1128, 1161, 1184, 1207, 1230], 179)) c_27 ⟨rfl, rfl, rfl, rfl⟩ (jl_27 C hX hsb hbb hi hl hL hcc hss tx tm (it1 h c_27) hK)
  replace h := it2 h c_27
  by_cases c_28 : op = 28
  · exact jTabIn C 916 28 (by decide +kernel : decode cL_law 33 = .ok (.tableswitch 1243 0 40 #[179, 192, 225, 268, 301, 334, 367, 400, 463, 486, 499, 512, 525, 538, 551, 564, 587, 630, 653, 686, 709, 722, 735, 768, 801, 814, 837, 860, 883, 906, 949, 982, 1005, 1038, 1061, 1095, 1128, 1161, 1184, 1207, 1230], 179)) c_28 ⟨rfl, rfl, rfl, rfl⟩ (jl_28 C hX hsb hbb hi hl hL hcc hss tx tm (it1 h c_28) hK)
  replace h := it2 h c_28
  by_cases c_29 : op = 29
  · exact jTabIn C 939 29 (by decide +kernel : decode cL_law 33 = .ok (.tableswitch 1243 0 40 #[179, 192, 225, 268, 301, 334, 367, 400, 463, 486, 499, 512, 525, 538, 551, 564, 587, 630, 653, 686, 709, 722, 735, 768, 801, 814, 837, 860, 883, 906, 949, 982, 1005, 1038, 1061, 1095, 1128, 1161, 1184, 1207, 1230], 179)) c_29 ⟨rfl, rfl, rfl, rfl⟩ (jl_29 C hX hsb hbb hi hl hL hcc hss tx tm (it1 h c_29) hK)
  replace h := it2 h c_29
  by_cases c_30 : op = 30
  · exact jTabIn C 982 30 (by decide +kernel : decode cL_law 33 = .ok (.tableswitch 1243 0 40 #[179, 192, 225, 268, 301, 334, 367, 400, 463, 486, 499, 512, 525, 538, 551, 564, 587, 630, 653, 686, 709, 722, 735, 768, 801, 814, 837, 860, 883, 906, 949, 982, 1005, 1038, 1061, 1095, 1128, 1161, 1184, 1207, 1230], 179)) c_30 ⟨rfl, rfl, rfl, rfl⟩ (jl_30 C hX hsb hbb hi hl hL hcc hss tx tm (it1 h c_30) hK)
  replace h := it2 h c_30
  by_cases c_31 : op = 31
  · exact jTabIn C 1015 31 (by decide +kernel : decode cL_law 33 = .ok (.tableswitch 1243 0 40 #[179, 192, 225, 268, 301, 334, 367, 400, 463, 486, 499, 512, 525, 538, 551, 564, 587, 630, 653, 686, 709, 722, 735, 768, 801, 814, 837, 860, 883, 906, 949, 982, 1005, 1038, 1061, 1095, 1128, 1161, 1184, 1207, 1230], 179)) c_31 ⟨rfl, rfl, rfl, rfl⟩ (jl_31 C hX hsb hbb hi hl hL hcc hss tx tm (it1 h c_31) hK)
  replace h := it2 h c_31
  by_cases c_32 : op = 32
  · exact jTabIn C 1038 32 (by decide +kernel : decode cL_law 33 = .ok (.tableswitch 1243 0 40 #[179, 192, 225, 268, 301, 334, 367, 400, 463, 486, 499, 512, 525, 538, 551, 564, 587, 630, 653, 686, 709, 722, 735, 768, 801, 814, 837, 860, 883, 906, 949, 982, 1005, 1038, 1061, 1095, 1128, 1161, 1184, 1207, 1230], 179)) c_32 ⟨rfl, rfl, rfl, rfl⟩ (jl_32 C hX hsb hbb hi hl hL hcc hss tx tm (it1 h c_32) hK)
  replace h := it2 h c_32
  by_cases c_33 : op = 33
  · exact jTabIn C 1071 33 (by decide +kernel : decode cL_law 33 = .ok (.tableswitch 1243 0 40 #[179, 192, 225, 268, 301, 334, 367, 400, 463, 486, 499, 512, 525, 538, 551, 564, 587, 630, 653, 686, 709, 722, 735, 768, 801, 814, 837, 860, 883, 906, 949, 982, 1005, 1038, 1061, 1095, 1128, 1161, 1184, 1207, 1230], 179)) c_33 ⟨rfl, rfl, rfl, rfl⟩ (jl_33 C hX hsb hbb hi hl hL hcc hss tx tm (it1 h c_33) hK)
  replace h := it2 h c_33
  by_cases c_34 : op = 34
  · exact jTabIn C 1094 34 (by decide +kernel : decode cL_law 33 = .ok (.tableswitch 1243 0 40 #[179, 192, 225, 268, 301, 334, 367, 400, 463, 486, 499, 512, 525, 538, 551, 564, 587, 630, 653, 686, 709, 722, 735, 768, 801, 814, 837, 860, 883, 906, 949, 982, 1005, 1038, 1061, 1095, 1128, 1161, 1184, 1207, 1230], 179)) c_34 ⟨rfl, rfl, rfl, rfl⟩ (jl_34 C hX hsb hbb hi hl hL hcc hss tx tm (it1 h c_34) hK)
  replace h := it2 h c_34
  by_cases c_35 : op = 35
  · exact jTabIn C 1128 35 (by decide +kernel : decode cL_law 33 = .ok (.tableswitch 1243 0 40 #[179, 192, 225, 268, 301, 334, 367, 400, 463, 486, 499, 512, 525, 538, 551, 564, 587, 630, 653, 686, 709, 722, 735, 768, 801, 814, 837, 860, 883, 906, 949, 982, 1005, 1038, 1061, 1095, 1128, 1161, 1184, 1207, 1230], 179)) c_35 ⟨rfl, rfl, rfl, rfl⟩ (jl_35 C hX hsb hbb hi hl hL hcc hss tx tm (it1 h c_35) hK)
  replace h := it2 h c_35
  by_cases c_36 : op = 36
  · exact jTabIn C 1161 36 (by decide +kernel : decode cL_law 33 = .ok (.tableswitch 1243 0 40 #[179, 192, 225, 268, 301, 334, 367, 400, 463, 486, 499, 512, 525, 538, 551, 564, 587, 630, 653, 686, 709, 722, 735, 768, 801, 814, 837, 860, 883, 906, 949, 982, 1005, 1038, 1061, 1095, 1128, 1161, 1184, 1207, 1230], 179)) c_36 ⟨rfl, rfl, rfl, rfl⟩ (jl_36 C hX hsb hbb hi hl hL hcc hss tx tm (it1 h c_36) hK)
  replace h := it2 h c_36
  by_cases c_37 : op = 37
  · exact jTabIn C 1194 37 (by decide +kernel : decode cL_law 33 = .ok (.tableswitch 1243 0 40 #[179, 192, 225, 268, 301, 334, 367, 400, 463, 486, 499, 512, 525, 538, 551, 564, 587, 630, 653, 686, 709, 722, 735, 768, 801, 814, 837, 860, 883, 906, 949, 982, 1005, 1038, 1061, 1095, 1128, 1161, 1184, 1207, 1230], 179)) c_37 ⟨rfl, rfl, rfl, rfl⟩ (jl_37 C hX hsb hbb hi hl hL hcc hss tx tm (it1 h c_37) hK)
  replace h := it2 h c_37
  by_cases c_38 : op = 38
  · exact jTabIn C 1217 38 (by decide +kernel : decode cL_law 33 = .ok (.tableswitch 1243 0 40 #[179, 192, 225, 268, 301, 334, 367, 400, 463, 486, 499, 512, 525, 538, 551, 564, 587, 630, 653, 686, 709, 722, 735, 768, 801, 814, 837, 860, 883, 906, 949, 982, 1005, 1038, 1061, 1095, 1128, 1161, 1184, 1207, 1230], 179)) c_38 ⟨rfl, rfl, rfl, rfl⟩ (jl_38 C hX hsb hbb hi hl hL hcc hss tx tm (it1 h c_38) hK)
  replace h := it2 h c_38
  by_cases c_39 : op = 39
  · exact jTabIn C 1240 39 (by decide +kernel : decode cL_law 33 = .ok (.tableswitch 1243 0 40 #[179, 192, 225, 268, 301, 334, 367, 400, 463, 486, 499, 512, 525, 538, 551, 564, 587, 630, 653, 686, 709, 722, 735, 768, 801, 814, 837, 860, 883, 906, 949, 982, 1005, 1038, 1061, 1095, 1128, 1161, 1184, 1207, 1230], 179)) c_39 ⟨rfl, rfl, rfl, rfl⟩ (jl_39 C hX hsb hbb hi hl hL hcc hss tx tm (it1 h c_39) hK)
  replace h := it2 h c_39
  by_cases c_40 : op = 40
  · exact jTabIn C 1263 40 (by decide +kernel : decode cL_law 33 = .ok (.tableswitch 1243 0 40 #[179, 192, 225, 268, 301, 334, 367, 400, 463, 486, 499, 512, 525, 538, 551, 564, 587, 630, 653, 686, 709, 722, 735, 768, 801, 814, 837, 860, 883, 906, 949, 982, 1005, 1038, 1061, 1095, 1128, 1161, 1184, 1207, 1230], 179)) c_40 ⟨rfl, rfl, rfl, rfl⟩ (jl_40 C hX hsb hbb hi hl hL hcc hss tx tm (it1 h c_40) hK)
  replace h := it2 h c_40
  refine jTabOut C 1276 (by decide +kernel : decode cL_law 33 = .ok (.tableswitch 1243 0 40 #[179, 192, 225, 268, 301, 334, 367, 400, 463, 486, 499, 512, 525, 538, 551, 564, 587, 630, 653, 686, 709, 722, 735, 768, 801, 814, 837, 860, 883, 906, 949, 982, 1005, 1038, 1061, 1095, 1128, 1161, 1184, 1207, 1230], 179)) rfl (by have := lv_neT c_0 (a := 0) rfl; have := lv_neT c_1 (a := 1) rfl; have := lv_neT c_2 (a := 2) rfl; have := lv_neT c_3 (a := 3) rfl; have := lv_neT c_4 (a := 4) rfl; have := lv_neT c_5 (a := 5) rfl; have := lv_neT c_6 (a := 6) rfl; have := lv_neT c_7 (a := 7) rfl; have := lv_neT c_8 (a := 8) rfl; have := lv_neT c_9 (a := 9) rfl; have := lv_neT c_10 (a := 10) rfl; have := lv_neT c_11 (a := 11) rfl; have := lv_neT c_12 (a := 12) rfl; have := lv_neT c_13 (a := 13) rfl; have := lv_neT c_14 (a := 14) rfl; have := lv_neT c_15 (a := 15) rfl; have := lv_neT c_16 (a := 16) rfl; have := lv_neT c_17 (a := 17) rfl; have := lv_neT c_18 (a := 18) rfl; have := lv_neT c_19 (a := 19) rfl; have := lv_neT c_20 (a := 20) rfl; have := lv_neT c_21 (a := 21) rfl; have := lv_neT c_22 (a := 22) rfl; have := lv_neT c_23 (a := 23) rfl; have := lv_neT c_24 (a := 24) rfl; have := lv_neT c_25 (a := 25) rfl; have := lv_neT c_26 (a := 26) rfl; have := lv_neT c_27 (a := 27) rfl; have := lv_neT c_28 (a := 28) rfl; have := lv_neT c_29 (a := 29) rfl; have := lv_neT c_30 (a := 30) rfl; have := lv_neT c_31 (a := 31) rfl; have := lv_neT c_32 (a := 32) rfl; have := lv_neT c_33 (a := 33) rfl; have := lv_neT c_34 (a := 34) rfl; have := lv_neT c_35 (a := 35) rfl; have := lv_neT c_36 (a := 36) rfl; have := lv_neT c_37 (a := 37) rfl; have := lv_neT c_38 (a := 38) rfl; have := lv_neT c_39 (a := 39) rfl; have := lv_neT c_40 (a := 40) rfl; omega) ?_
  exact jWid (by omega) (by omega) (hK _ _ ext.rf h)
